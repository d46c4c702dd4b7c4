/** Promise 3, part 4 of the terms: CONNECT. */
public final class ConnectTest {
    private static final int[] NONE = Rig.properties();

    public static void main(String[] args) {
        protocolAndFlags();
        propertiesOfConnect();
        willOfConnect();
        userAndPassword();
        behindAll();
        idsOfClients();
        idsThatAreMade();
        twelveSessions();
        newAndGoingOn();
        whatIsToldLast();
        cleanEndsTheSession();
        takenOver();
        takenOverAndEnded();
        theWillThatDoesNotCome();
        sentAgain();
        sentAgainToALesserSize();
        waitingGoesOn();
        leastNumberIsTaken();
        Check.end();
    }

    private static void refused(int fault, int[] connect) {
        Rig r = new Rig();
        r.broker.open(0);
        Check.same("taken", 1, r.feed(0, connect));
        if (fault == 0) {
            Check.yes("let in", r.broker.isOpen(0));
            r.told(0, 1);
        } else {
            r.closedWith(0, Rig.refusal(fault));
            r.told(0, 0);
            r.told(7, 0);
        }
        r.told(2, 1);
        r.told(3, 1);
    }

    private static int[] connect(Object... parts) {
        return Rig.packet(16, parts);
    }

    private static void protocolAndFlags() {
        refused(132, connect("MQTT ", 5, 2, 0, 0, 0, "x"));
        refused(132, connect("MQT", 5, 2, 0, 0, 0, "x"));
        refused(132, connect("mqtt", 5, 2, 0, 0, 0, "x"));
        refused(132, connect("", 5, 2, 0, 0, 0, "x"));
        refused(129, connect("M\u00ff", 5, 2, 0, 0, 0, "x"));
        refused(132, connect("MQTT", 4, 2, 0, 0, 0, "x"));
        refused(132, connect("MQTT", 6, 1, 0, 0, 0, "x"));
        refused(129, connect());
        refused(129, connect("MQTT"));
        refused(129, connect("MQTT", 5));
        refused(129, connect("MQTT", 5, 2));
        refused(129, connect("MQTT", 5, 2, 0));
        refused(129, connect("MQTT", 5, 2, 0, 0));
        refused(129, connect("MQTT", 5, 2, 0, 0, 0));
        refused(0, connect("MQTT", 5, 2, 0, 0, 0, "x"));
        refused(129, connect("MQTT", 5, 2, 0, 0, 0, "x", 0));
        int[] will = Rig.join(0, "w", "p");
        for (int flags = 0; flags < 256; flags++) {
            boolean hasWill = (flags & 4) != 0;
            int quality = flags >> 3 & 3;
            boolean bad = (flags & 1) != 0 || quality == 3 || !hasWill && (quality > 0 || (flags & 32) != 0);
            refused(bad ? 129 : 0, connect("MQTT", 5, flags, 0, 0, 0, "x", hasWill ? will : new int[0],
                    (flags & 128) != 0 ? Rig.string("u") : new int[0],
                    (flags & 64) != 0 ? Rig.string("\u00ff") : new int[0]));
        }
    }

    private static void propertiesOfConnect() {
        Object[][] fine = {{17, Rig.four(7)}, {23, 0}, {23, 1}, {25, 0}, {25, 1}, {33, Rig.two(1)},
            {34, Rig.two(0)}, {39, Rig.four(1)}, {38, "a", "b", 38, "a", "b"}};
        for (Object[] one : fine) {
            refused(0, Rig.connect("x", 2, 0, Rig.properties(one)));
            if ((Integer) one[0] != 38) {
                int[] twice = Rig.join(Rig.join(one), Rig.join(one));
                refused(130, Rig.connect("x", 2, 0, Rig.properties(twice)));
            }
        }
        refused(129, Rig.connect("x", 2, 0, Rig.properties(23, 2)));
        refused(129, Rig.connect("x", 2, 0, Rig.properties(25, 2)));
        refused(130, Rig.connect("x", 2, 0, Rig.properties(33, 0, 0)));
        refused(130, Rig.connect("x", 2, 0, Rig.properties(39, Rig.four(0))));
        refused(130, Rig.connect("x", 2, 0, Rig.properties(22, "data")));
        refused(129, Rig.connect("x", 2, 0, Rig.properties(33, 0, 0, 23, 9)));
        refused(130, Rig.connect("\u00ff", 2, 0, Rig.properties(33, 0, 0)));
        for (int key = 0; key < 256; key++) {
            boolean may = key == 17 || key >= 21 && key <= 23 || key == 25 || key == 33 || key == 34
                    || key == 38 || key == 39;
            refused(may ? 129 : 130, Rig.connect("x", 2, 0, Rig.properties(key)));
            boolean willMay = key >= 1 && key <= 3 || key == 8 || key == 9 || key == 24 || key == 38;
            refused(willMay ? 129 : 130, Rig.connect("x", 4, 0, NONE, Rig.properties(key), "w", ""));
        }
    }

    private static void willOfConnect() {
        int[] all = Rig.properties(1, 1, 2, Rig.four(3), 3, "t", 8, "r", 9, "c", 24, Rig.four(5), 38, "a", "b");
        refused(0, Rig.connect("x", 4, 0, NONE, all, "w", "p"));
        refused(130, Rig.connect("x", 4, 0, NONE, Rig.properties(8, "+"), "w", "p"));
        refused(130, Rig.connect("x", 4, 0, NONE, Rig.properties(8, ""), "w#", "p"));
        refused(130, Rig.connect("x", 4, 0, NONE, Rig.properties(24, Rig.four(1), 24, Rig.four(1)), "w", ""));
        refused(144, Rig.connect("x", 4, 0, NONE, 0, "", "p"));
        refused(144, Rig.connect("x", 4, 0, NONE, 0, "a/#", "p"));
        refused(144, Rig.connect("x", 4, 0, NONE, 0, "+", Rig.two(9)));
        refused(144, Rig.connect("x", 4, 0, NONE, 0, Rig.repeat("w", 65), "p"));
        refused(0, Rig.connect("x", 4, 0, NONE, 0, Rig.repeat("w", 64), ""));
        refused(129, Rig.connect("x", 4, 0, NONE, 0, "w"));
        refused(129, Rig.connect("x", 4, 0, NONE, 0, "w", Rig.two(1)));
        refused(129, Rig.connect("x", 4, 0, NONE, 0, "w\u0080", "p"));
        refused(129, Rig.connect("x", 4, 0, NONE));
        refused(0, Rig.connect("x", 4, 0, NONE, 0, "w", "\u0000\u00ff"));
    }

    private static void userAndPassword() {
        refused(0, Rig.connect("x", 128, 0, NONE, "user"));
        refused(129, Rig.connect("x", 128, 0, NONE));
        refused(129, Rig.connect("x", 128, 0, NONE, "us\u0000er"));
        refused(0, Rig.connect("x", 64, 0, NONE, "\u0000\u00ff"));
        refused(129, Rig.connect("x", 64, 0, NONE, Rig.two(3), 1, 2));
        refused(0, Rig.connect("x", 192, 0, NONE, "user", "\u0000"));
        refused(129, Rig.connect("x", 192, 0, NONE, "user"));
        refused(129, Rig.connect("x", 192, 0, NONE, "\u0000", "user"));
    }

    private static void behindAll() {
        String longId = Rig.repeat("i", 21);
        refused(140, Rig.connect(longId, 2, 0, Rig.properties(21, "m")));
        refused(140, Rig.connect("x", 2, 0, Rig.properties(21, "m", 22, "d")));
        refused(140, Rig.connect("x", 2, 0, Rig.properties(22, "d", 21, "m")));
        refused(129, Rig.connect("x", 2, 0, Rig.properties(21, "m"), 0));
        refused(133, Rig.connect(longId, 2, 0, NONE));
        refused(129, Rig.connect(longId, 2, 0, NONE, 0));
        refused(144, Rig.connect(longId, 4, 0, Rig.properties(21, "m"), 0, "", ""));
        refused(0, Rig.connect(Rig.repeat("i", 20), 2, 0, NONE));
        refused(129, Rig.connect("x\u0000", 2, 0, NONE));
        refused(129, Rig.connect("\u00ff", 2, 0, Rig.properties(21, "m")));
        refused(129, Rig.connect("x", 2, 0, Rig.properties(21, "\u00ff")));
        refused(140, Rig.connect("x", 2, 0, Rig.properties(21, "m", 22, "\u00ff")));
    }

    private static void idsOfClients() {
        Rig r = new Rig();
        String id = "\u00e1\u0080\u0080" + Rig.repeat("i", 17);
        r.broker.open(0);
        r.feed(0, Rig.connect(id, 0, 0, NONE));
        r.sends(0, Rig.connack(false));
        Check.same("id", id, r.idOf(0));
        r.session(0, 6, 20);
    }

    private static void idsThatAreMade() {
        Rig r = new Rig();
        r.enter(0, "auto2", 9);
        r.enter(1, "auto3", 9);
        r.broker.open(2);
        r.feed(2, Rig.connect("", 0, 7, Rig.expiry(9)));
        r.sends(2, Rig.connack("auto1"));
        Check.same("id", "auto1", r.idOf(2));
        r.broker.open(3);
        r.feed(3, Rig.connect("", 2, 7, NONE));
        r.sends(3, Rig.connack("auto4"));
        r.told(7, 2);
        r.broker.lose(3);
        r.broker.open(3);
        r.feed(3, Rig.connect("", 0, 7, Rig.properties(21, "m")));
        r.closedWith(3, Rig.refusal(140));
        for (int i = 5; i < 12; i++) {
            r.broker.open(3);
            r.feed(3, Rig.connect("", 2, 7, NONE));
            r.sends(3, Rig.connack("auto" + i));
            r.broker.lose(3);
        }
        r.told(7, 9);
        r.broker.open(3);
        r.feed(3, Rig.connect("auto1", 0, 7, Rig.expiry(9)));
        r.sends(3, Rig.connack(true));
        r.closedWith(2, Rig.farewell(142));
        r.told(7, 9);
    }

    private static void twelveSessions() {
        Rig r = new Rig();
        for (int i = 0; i < 12; i++) {
            r.enter(0, "c" + i, 100);
            r.broker.lose(0);
        }
        r.told(0, 12);
        r.broker.open(0);
        r.feed(0, Rig.connect("c12", 2, 0, NONE));
        r.closedWith(0, Rig.refusal(151));
        r.broker.open(0);
        r.feed(0, Rig.connect("", 2, 0, NONE));
        r.closedWith(0, Rig.refusal(151));
        r.told(7, 0);
        r.broker.open(0);
        r.feed(0, Rig.connect("c4", 2, 0, Rig.expiry(100)));
        r.sends(0, Rig.connack(false));
        r.session(4, 0, 0);
        r.broker.open(1);
        r.feed(1, Rig.connect("c11", 0, 0, NONE));
        r.sends(1, Rig.connack(true));
        r.session(11, 0, 1);
        r.broker.lose(1);
        Check.yes("11 is free", !r.broker.isSession(11));
        r.broker.open(1);
        r.feed(1, Rig.connect("", 0, 0, NONE));
        r.sends(1, Rig.connack("auto1"));
        r.session(11, 0, 1);
    }

    private static void newAndGoingOn() {
        Rig r = new Rig();
        r.enter(0, "x", 50);
        r.listen(0, "a", 1);
        r.feed(0, Rig.publish(4, "t", 77, "p"));
        r.broker.lose(0);
        r.session(0, 0, -1);
        r.broker.open(5);
        r.feed(5, Rig.connect("x", 0, 0, NONE));
        r.sends(5, Rig.connack(true));
        r.session(0, 0, 5);
        r.session(0, 1, 1);
        r.session(0, 4, 1);
        Check.same("expiry", 0, r.broker.expiry(0));
        r.broker.lose(5);
        r.told(0, 0);
        r.broker.open(5);
        r.feed(5, Rig.connect("x", 0, 0, NONE));
        r.sends(5, Rig.connack(false));
        r.session(0, 1, 0);
        r.session(0, 4, 0);
    }

    private static void whatIsToldLast() {
        Rig r = new Rig();
        int[] all = Rig.properties(17, Rig.four(Rig.NEVER), 33, Rig.two(3), 39, Rig.four(99));
        r.enter(0, Rig.connect("x", 4, 65535, all, 0, "w", ""));
        Check.same("expiry", Rig.NEVER, r.broker.expiry(0));
        r.session(0, 7, 65535);
        r.session(0, 8, 3);
        r.session(0, 5, 1);
        r.enter(1, Rig.connect("x", 0, 0, NONE));
        Check.same("expiry", 0, r.broker.expiry(0));
        r.session(0, 7, 0);
        r.session(0, 8, 65535);
        r.session(0, 5, 0);
    }

    private static void cleanEndsTheSession() {
        Rig r = new Rig();
        r.enter(1, "seer", 99);
        r.listen(1, "#", 0);
        r.enter(0, Rig.connect("x", 4, 0, Rig.expiry(99), Rig.properties(24, Rig.four(50)), "w", "late"));
        r.listen(0, "a", 0);
        r.broker.lose(0);
        r.sends(1);
        r.session(1, 5, 1);
        r.broker.open(0);
        r.feed(0, Rig.connect("x", 2, 0, Rig.expiry(99)));
        r.sends(0, Rig.connack(false));
        r.sends(1, Rig.publish(0, "w", 0, "late"));
        r.session(1, 1, 0);
        r.session(1, 5, 0);
        r.told(4, 1);
    }

    private static void takenOver() {
        Rig r = new Rig();
        r.enter(0, Rig.connect("x", 4, 0, Rig.expiry(99), 0, "w", "p"));
        r.listen(0, "w", 1);
        r.feed(0, 192);
        r.broker.open(1);
        r.feed(1, Rig.connect("x", 0, 0, Rig.expiry(99)));
        r.closedWith(0, Rig.farewell(142));
        // Its own will came while it was not ONLINE; with quality 0 that is lost to it.
        r.sends(1, Rig.connack(true));
        r.session(0, 0, 1);
        Check.same("got", 1, r.broker.subscription(0, 0, 3));
        r.told(4, 1);
        Check.same("pending", 0, r.broker.pending(0));
    }

    private static void takenOverAndEnded() {
        Rig r = new Rig();
        r.enter(2, "seer", 99);
        r.listen(2, "#", 0);
        r.enter(0, Rig.connect("x", 4, 0, NONE, Rig.properties(24, Rig.four(50)), "w", "p"));
        r.listen(0, "a", 1);
        r.broker.open(1);
        r.feed(1, Rig.connect("x", 0, 0, NONE));
        r.closedWith(0, Rig.farewell(142));
        r.sends(2, Rig.publish(0, "w", 0, "p"));
        r.sends(1, Rig.connack(false));
        r.session(1, 1, 0);
    }

    private static void theWillThatDoesNotCome() {
        Rig r = new Rig();
        r.enter(1, "seer", 99);
        r.listen(1, "#", 0);
        int[] delay = Rig.properties(24, Rig.four(5));
        r.enter(0, Rig.connect("x", 4, 0, Rig.expiry(99), delay, "w", "one"));
        r.broker.lose(0);
        r.broker.pass(4);
        r.enter(0, Rig.connect("x", 4, 0, Rig.expiry(99), delay, "w", "two"));
        r.broker.pass(10);
        r.sends(1);
        r.broker.lose(0);
        r.broker.pass(4);
        r.sends(1);
        r.broker.pass(1);
        r.sends(1, Rig.publish(0, "w", 0, "two"));
    }

    private static void sentAgain() {
        Rig r = new Rig();
        r.enter(0, "x", 99);
        r.feed(0, Rig.subscribe(1, "t", 2));
        r.enter(1, "pub", 99);
        r.broker.take(0, 99);
        r.feed(1, Rig.publish(4, "t", 1, "a"));
        r.feed(1, Rig.publish(2, "t", 2, Rig.properties(2, Rig.four(3)), "b"));
        r.feed(1, Rig.publish(4, "t", 3, "c"));
        r.feed(1, Rig.publish(2, "t", 4, "d"));
        r.broker.take(0, 999);
        r.feed(0, Rig.answer(80, 3));
        r.feed(0, Rig.answer(80, 1, 128));
        r.feed(1, Rig.publish(2, "t", 5, "e"));
        r.sends(0, Rig.answer(98, 3), Rig.publish(2, "t", 1, "e"));
        r.broker.lose(0);
        r.broker.pass(4);
        r.broker.open(0);
        r.feed(0, Rig.connect("x", 0, 0, Rig.expiry(99)));
        r.sends(0, Rig.connack(true),
                Rig.publish(10, "t", 2, Rig.properties(2, Rig.four(0)), "b"),
                Rig.answer(98, 3),
                Rig.publish(10, "t", 4, "d"),
                Rig.publish(10, "t", 1, "e"));
        r.session(0, 2, 4);
    }

    private static void sentAgainToALesserSize() {
        Rig r = new Rig();
        r.enter(0, "x", 99);
        r.feed(0, Rig.subscribe(1, "t", 2));
        r.enter(1, "pub", 99);
        r.feed(1, Rig.publish(4, "t", 1, "long one"));
        r.feed(1, Rig.publish(2, "t", 2, "long two"));
        r.feed(1, Rig.publish(2, "t", 3, "s"));
        r.feed(0, Rig.answer(80, 1));
        r.broker.lose(0);
        int size = Rig.publish(2, "t", 3, "s").length;
        r.broker.open(0);
        r.feed(0, Rig.connect("x", 0, 0, Rig.properties(17, Rig.four(9), 39, Rig.four(size))));
        r.sends(0, Rig.connack(true), Rig.answer(98, 1), Rig.publish(10, "t", 3, "s"));
        r.session(0, 2, 2);
        r.told(5, 1);
    }

    private static void waitingGoesOn() {
        Rig r = new Rig();
        r.enter(0, Rig.connect("x", 0, 0, Rig.properties(17, Rig.four(99), 33, Rig.two(2))));
        r.listen(0, "t", 1);
        r.enter(1, "pub", 99);
        for (int i = 0; i < 3; i++) {
            r.feed(1, Rig.publish(2, "t", 1, "m" + i));
        }
        r.sends(0, Rig.publish(2, "t", 1, "m0"), Rig.publish(2, "t", 2, "m1"));
        r.session(0, 3, 1);
        r.broker.lose(0);
        r.feed(1, Rig.publish(2, "t", 1, "m3"));
        r.session(0, 3, 2);
        r.broker.open(0);
        r.feed(0, Rig.connect("x", 0, 0, Rig.properties(17, Rig.four(99), 33, Rig.two(3))));
        r.sends(0, Rig.connack(true), Rig.publish(10, "t", 1, "m0"), Rig.publish(10, "t", 2, "m1"),
                Rig.publish(2, "t", 3, "m2"));
        r.session(0, 2, 3);
        r.session(0, 3, 1);
        // More may be ON THE WAY already than a later CONNECT lets.
        r.broker.lose(0);
        r.enter(0, Rig.connect("x", 0, 0, Rig.properties(17, Rig.four(99), 33, Rig.two(1))));
        r.session(0, 2, 3);
        r.feed(0, Rig.answer(64, 1));
        r.feed(0, Rig.answer(64, 2));
        r.sends(0);
        r.feed(0, Rig.answer(64, 3));
        r.sends(0, Rig.publish(2, "t", 1, "m3"));
    }

    private static void leastNumberIsTaken() {
        Rig r = new Rig();
        for (int i = 0; i < 4; i++) {
            r.enter(i, "c" + i, 0);
        }
        r.broker.lose(2);
        r.broker.lose(1);
        r.enter(1, "new", 9);
        Check.same("id", "new", r.idOf(1));
        r.enter(2, "c3", 9);
        Check.yes("c3 was ended, and came anew", !r.broker.isSession(3));
        Check.same("id", "c3", r.idOf(2));
        r.told(0, 3);
    }
}
