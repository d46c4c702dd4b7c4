/** The edges of part 4 of the terms, CONNECT, a test for each sentence. */
public final class ConnectEdgesTest {
    private static final int[] NONE = Rig.properties();

    public static void main(String[] args) {
        anyOtherThanMqtt();
        otherThanFive();
        flagOne();
        qualityOfTheWill();
        retainedWithoutWill();
        keepOfTwoBytes();
        mostAndSizeOfNone();
        dataWithoutMethod();
        responseOfTheWill();
        topicOfTheWill();
        userAndPassword();
        behindAllTheMethod();
        behindAllTheLongId();
        behindAllTheThirteenth();
        idsThatAreMade();
        idsOfTwoAndThreeFigures();
        theNumberGoesOn();
        refusedUsesNone();
        takenOver();
        takenOverAndEnded();
        cleanEndsIt();
        cleanAndTakenOver();
        withoutASession();
        theWillThatComesNoMore();
        whatIsNotTold();
        whatThisConnectTells();
        connackTells();
        connackOfAMadeId();
        sentAgainInOrder();
        sentAgainThoughGone();
        sentAgainBeyondSize();
        thenWhatWaits();
        Check.end();
    }

    private static Rig opened() {
        Rig r = new Rig();
        r.broker.open(0);
        return r;
    }

    /** A first CONNECT: it is this fault, or none with 0. */
    private static void refused(int fault, int[] connect) {
        Rig r = opened();
        Check.same("taken", 1, r.feed(0, connect));
        if (fault == 0) {
            Check.yes("let in", r.broker.isOpen(0));
        } else {
            r.closedWith(0, Rig.refusal(fault));
        }
        r.told(0, fault == 0 ? 1 : 0);
    }

    private static int[] connect(Object... parts) {
        return Rig.packet(16, parts);
    }

    private static void anyOtherThanMqtt() {
        Check.about("STRING (any other one than MQTT: 132)");
        for (String name : new String[] {"", "M", "MQT", "MQTTT", "XQTT", "MXTT", "MQXT", "MQTX", "mqtt", "MQIsdp"}) {
            refused(132, connect(name, 5, 2, 0, 0, 0, "x"));
        }
        refused(0, connect("MQTT", 5, 2, 0, 0, 0, "x"));
        // It is met before what is behind it.
        refused(132, connect("", 5, 1));
        refused(129, connect("\u00ff", 4));
    }

    private static void otherThanFive() {
        Check.about("a byte (other than 5: 132)");
        for (int version : new int[] {0, 3, 4, 6, 255}) {
            refused(132, connect("MQTT", version, 2, 0, 0, 0, "x"));
        }
        refused(132, connect("MQTT", 4, 1));
    }

    private static void flagOne() {
        Check.about("FLAGS, a byte: 1 must not be (129)");
        refused(0, connect("MQTT", 5, 0, 0, 0, 0, "x"));
        refused(129, connect("MQTT", 5, 1, 0, 0, 0, "x"));
        refused(129, connect("MQTT", 5, 3, 0, 0, 0, "x"));
        refused(129, connect("MQTT", 5, 3, 0, 0, 1, 99, "x"));
    }

    private static void qualityOfTheWill() {
        Check.about("4 a WILL, 8 and 16 its quality (3, or not 0 without will: 129)");
        int[] will = Rig.join(0, "w", "");
        for (int quality = 0; quality < 4; quality++) {
            refused(quality == 3 ? 129 : 0, connect("MQTT", 5, 4 | quality << 3, 0, 0, 0, "x", will));
            refused(quality > 0 ? 129 : 0, connect("MQTT", 5, quality << 3, 0, 0, 0, "x"));
        }
    }

    private static void retainedWithoutWill() {
        Check.about("32 the will is retained (without will: 129)");
        refused(129, connect("MQTT", 5, 32, 0, 0, 0, "x"));
        refused(0, connect("MQTT", 5, 36, 0, 0, 0, "x", 0, "w", ""));
    }

    private static void keepOfTwoBytes() {
        Check.about("TWO, KEEP");
        for (int keep : new int[] {0, 1, 255, 256, 65535}) {
            Rig r = new Rig();
            r.enter(0, Rig.connect("x", 0, keep, NONE));
            r.session(0, 7, keep);
        }
    }

    private static void mostAndSizeOfNone() {
        Check.about("of which 33 and 39 must not be 0 [..] (130, behind them)");
        refused(130, Rig.connect("x", 2, 0, Rig.properties(33, 0, 0)));
        refused(0, Rig.connect("x", 2, 0, Rig.properties(33, 0, 1)));
        refused(0, Rig.connect("x", 2, 0, Rig.properties(33, 255, 255)));
        refused(130, Rig.connect("x", 2, 0, Rig.properties(39, 0, 0, 0, 0)));
        refused(0, Rig.connect("x", 2, 0, Rig.properties(39, 0, 0, 0, 1)));
        refused(0, Rig.connect("x", 2, 0, Rig.properties(39, 255, 255, 255, 255)));
        // 34 may be 0, and so may 17.
        refused(0, Rig.connect("x", 2, 0, Rig.properties(34, 0, 0, 17, Rig.four(0))));
        // A fault of the properties themselves is met before it, one of the id behind it.
        refused(129, Rig.connect("x", 2, 0, Rig.properties(33, 0, 0, 23, 2)));
        refused(129, Rig.connect("x", 2, 0, Rig.properties(39, 0, 0, 0, 0, 25, 2)));
        refused(130, Rig.connect("\u00ff", 2, 0, Rig.properties(33, 0, 0)));
    }

    private static void dataWithoutMethod() {
        Check.about("and 22 not without 21 (130, behind them)");
        refused(130, Rig.connect("x", 2, 0, Rig.properties(22, "")));
        refused(129, Rig.connect("x", 2, 0, Rig.properties(22, "", 23, 2)));
        refused(130, Rig.connect("\u00ff", 2, 0, Rig.properties(22, "")));
        refused(140, Rig.connect("x", 2, 0, Rig.properties(22, "", 21, "")));
    }

    private static void responseOfTheWill() {
        Check.about("with a will properties [..] 8 (no TOPIC: 130, behind them)");
        for (String topic : new String[] {"", "+", "a/#", Rig.repeat("r", 65)}) {
            refused(130, Rig.connect("x", 4, 0, NONE, Rig.properties(8, topic), "w", ""));
            refused(129, Rig.connect("x", 4, 0, NONE, Rig.properties(8, topic, 1, 2), "w", ""));
            refused(130, Rig.connect("x", 4, 0, NONE, Rig.properties(8, topic), "", ""));
        }
        refused(0, Rig.connect("x", 4, 0, NONE, Rig.properties(8, Rig.repeat("r", 64)), "w", ""));
        refused(0, Rig.connect("x", 4, 0, NONE, Rig.properties(8, "r"), "w", ""));
    }

    private static void topicOfTheWill() {
        Check.about("a STRING (no TOPIC: 144), a ROW, its payload");
        for (String topic : new String[] {"", "+", "#", "a/+", Rig.repeat("w", 65)}) {
            refused(144, Rig.connect("x", 4, 0, NONE, 0, topic, ""));
            refused(144, Rig.connect("x", 4, 0, NONE, 0, topic));
        }
        refused(0, Rig.connect("x", 4, 0, NONE, 0, "w", ""));
        refused(0, Rig.connect("x", 4, 0, NONE, 0, Rig.repeat("w", 64), "\u0000\u00ff"));
    }

    private static void userAndPassword() {
        Check.about("with a user a STRING, with a password a ROW");
        refused(0, Rig.connect("x", 128, 0, NONE, ""));
        refused(129, Rig.connect("x", 128, 0, NONE, "\u0000"));
        refused(0, Rig.connect("x", 64, 0, NONE, ""));
        refused(0, Rig.connect("x", 64, 0, NONE, "\u0000"));
        refused(0, Rig.connect("x", 192, 0, NONE, "u", "\u0000"));
        refused(129, Rig.connect("x", 192, 0, NONE, "u"));
        refused(129, Rig.connect("x", 128, 0, NONE, "u", "p"));
        refused(129, Rig.connect("x", 0, 0, NONE, "u"));
        refused(0, Rig.connect("x", 196, 0, NONE, 0, "w", "", "u", "p"));
    }

    private static void behindAllTheMethod() {
        Check.about("Behind all: with 21 it is 140");
        refused(140, Rig.connect("x", 2, 0, Rig.properties(21, "")));
        refused(140, Rig.connect("x", 2, 0, Rig.properties(21, "m", 22, "")));
        refused(144, Rig.connect("x", 4, 0, Rig.properties(21, "m"), 0, "+", ""));
        refused(129, Rig.connect("x", 128, 0, Rig.properties(21, "m"), "\u0000"));
        refused(129, Rig.connect("x", 2, 0, Rig.properties(21, "m"), 0));
        refused(129, Rig.connect("x", 2, 0, Rig.properties(21, "\u00ff")));
        refused(140, Rig.connect("x", 2, 0, Rig.properties(21, "", 22, "\u00ff")));
        refused(140, Rig.connect(Rig.repeat("i", 21), 2, 0, Rig.properties(21, "m")));
    }

    private static void behindAllTheLongId() {
        Check.about("an id of more than 20 bytes 133");
        refused(0, Rig.connect(Rig.repeat("i", 20), 2, 0, NONE));
        refused(133, Rig.connect(Rig.repeat("i", 21), 2, 0, NONE));
        refused(133, Rig.connect(Rig.repeat("\u00c3\u00a4", 11), 2, 0, NONE));
        refused(0, Rig.connect(Rig.repeat("\u00c3\u00a4", 10), 2, 0, NONE));
        refused(133, Rig.connect(Rig.repeat("i", 300), 2, 0, NONE));
        refused(144, Rig.connect(Rig.repeat("i", 21), 4, 0, NONE, 0, "+", ""));
        refused(129, Rig.connect(Rig.repeat("i", 21), 2, 0, NONE, 0));
    }

    private static Rig twelve() {
        Rig r = new Rig();
        for (int i = 0; i < 12; i++) {
            r.enter(0, "c" + i, 99);
            r.broker.lose(0);
        }
        return r;
    }

    private static void behindAllTheThirteenth() {
        Check.about("when there are 12 sessions and none is its own 151");
        Rig r = twelve();
        int[] refusals = {151, 151, 133, 140, 129};
        int[][] connects = {Rig.connect("c", 2, 0, NONE), Rig.connect("", 2, 0, NONE),
            Rig.connect(Rig.repeat("i", 21), 2, 0, NONE), Rig.connect("c", 2, 0, Rig.properties(21, "m")),
            Rig.connect("c", 2, 0, NONE, 0)};
        for (int i = 0; i < connects.length; i++) {
            r.broker.open(0);
            r.feed(0, connects[i]);
            r.closedWith(0, Rig.refusal(refusals[i]));
        }
        r.told(0, 12);
        for (int i = 0; i < 12; i += 11) {
            r.broker.open(i % 8);
            r.feed(i % 8, Rig.connect("c" + i, 0, 0, Rig.expiry(99)));
            r.sends(i % 8, Rig.connack(true));
        }
        // With CLEAN its own one makes room for the new one.
        r.broker.open(1);
        r.feed(1, Rig.connect("c5", 2, 0, Rig.expiry(99)));
        r.sends(1, Rig.connack(false));
        Check.same("in its place", "c5", r.idOf(5));
        // So does one that is ONLINE and ENDS by that.
        r.enter(2, "c6", 0);
        r.broker.open(4);
        r.feed(4, Rig.connect("c6", 0, 0, NONE));
        r.sends(4, Rig.connack(false));
        r.session(6, 0, 4);
        r.broker.lose(4);
        r.told(0, 11);
        r.broker.open(4);
        r.feed(4, Rig.connect("c", 0, 0, NONE));
        r.sends(4, Rig.connack(false));
    }

    private static void idsThatAreMade() {
        Check.about("Without bytes the id is auto and a number, 1 for the first of these, and so on, in figures");
        Rig r = new Rig();
        r.enter(0, "x", 9);
        for (int n = 1; n <= 7; n++) {
            r.broker.open(n);
            r.feed(n, Rig.connect("", 0, 0, NONE));
            r.sends(n, Rig.connack("auto" + n));
            Check.same("id", "auto" + n, r.idOf(n));
            r.told(7, n);
        }
    }

    private static void idsOfTwoAndThreeFigures() {
        Check.about("and so on, in figures");
        Rig r = new Rig();
        for (int n = 1; n <= 120; n++) {
            r.broker.open(0);
            // Fifteen bytes are fed with one call, so that the broker is not used too often.
            r.broker.feed(0, 0x5454514D04000D10L, 0x0000000000000205L, 15);
            if (n == 9 || n == 10 || n >= 99 && n <= 101 || n == 120) {
                Check.same("id", "auto" + n, r.idOf(0));
            }
            r.broker.lose(0);
        }
        r.told(7, 120);
        Check.same("CONNACK tells it", '1', r.broker.out(0, 23));
        Check.same("CONNACK tells it", '2', r.broker.out(0, 24));
        Check.same("CONNACK tells it", '0', r.broker.out(0, 25));
    }

    private static void theNumberGoesOn() {
        Check.about("if a client has that id already, the number goes on");
        Rig r = new Rig();
        r.enter(0, "auto1", 9);
        r.enter(1, "auto2", 9);
        r.enter(2, "auto4", 9);
        r.broker.lose(1);
        r.broker.open(3);
        r.feed(3, Rig.connect("", 0, 0, NONE));
        r.sends(3, Rig.connack("auto3"));
        r.broker.open(4);
        r.feed(4, Rig.connect("", 0, 0, NONE));
        r.sends(4, Rig.connack("auto5"));
        Check.yes("the others stay", r.broker.isOpen(0) && r.broker.isOpen(2));
        // It does not go back to ids that are free again.
        r.broker.lose(3);
        r.broker.lose(4);
        r.broker.open(3);
        r.feed(3, Rig.connect("", 0, 0, NONE));
        r.sends(3, Rig.connack("auto6"));
        r.told(7, 3);
        // Eleven that are there already are passed over as well.
        Rig q = new Rig();
        for (int i = 1; i <= 11; i++) {
            q.enter(0, "auto" + i, 99);
            q.broker.lose(0);
        }
        q.broker.open(0);
        q.feed(0, Rig.connect("", 0, 0, NONE));
        q.sends(0, Rig.connack("auto12"));
        q.told(7, 1);
    }

    private static void refusedUsesNone() {
        Check.about("a CONNECT that is refused uses none");
        Rig r = new Rig();
        int[][] wrong = {Rig.connect("", 2, 0, Rig.properties(21, "m")), Rig.connect("", 2, 0, NONE, 0),
            Rig.connect("", 2, 0, Rig.properties(33, 0, 0))};
        for (int[] connect : wrong) {
            r.broker.open(0);
            r.feed(0, connect);
            Check.yes("refused", !r.broker.isOpen(0));
        }
        r.told(7, 0);
        for (int i = 0; i < 12; i++) {
            r.enter(0, "c" + i, 99);
            r.broker.lose(0);
        }
        r.broker.open(0);
        r.feed(0, Rig.connect("", 2, 0, NONE));
        r.closedWith(0, Rig.refusal(151));
        r.broker.pass(99);
        r.broker.open(0);
        r.feed(0, Rig.connect("", 2, 0, NONE));
        r.sends(0, Rig.connack("auto1"));
        r.told(7, 1);
    }

    private static void takenOver() {
        Check.about("If its session is ONLINE, that connection gets DISCONNECT with 142 and is LOST first");
        Rig r = new Rig();
        r.enter(3, "seer", 9);
        r.listen(3, "w", 0);
        r.enter(0, Rig.connect("x", 4, 0, Rig.expiry(9), 0, "w", "p"));
        r.listen(0, "a", 0);
        r.broker.open(1);
        r.feed(1, Rig.connect("x", 0, 0, Rig.expiry(9)));
        r.closedWith(0, Rig.farewell(142));
        r.sends(1, Rig.connack(true));
        r.sends(3, Rig.publish(0, "w", 0, "p"));
        r.session(1, 0, 1);
        r.session(1, 1, 1);
        // It is LOST also when it has no room for the packet.
        r.fill(1, 2000);
        r.enter(2, "x", 9);
        Check.yes("closed", !r.broker.isOpen(1));
        Check.same("size", 2000, r.broker.size(1));
    }

    private static void takenOverAndEnded() {
        Check.about("(by which the session may END)");
        Rig r = new Rig();
        r.enter(0, "x", 0);
        r.listen(0, "a", 0);
        r.enter(2, "y", 9);
        r.broker.open(1);
        r.feed(1, Rig.connect("x", 0, 0, Rig.expiry(9)));
        r.closedWith(0, Rig.farewell(142));
        r.sends(1, Rig.connack(false));
        Check.same("in its place", "x", r.idOf(0));
        r.session(0, 1, 0);
        r.told(0, 2);
    }

    private static void cleanEndsIt() {
        Check.about("CLEAN: the session ENDS, if there is one (its will, if it is to come yet, comes then).");
        Rig r = new Rig();
        r.enter(3, "seer", 9);
        r.listen(3, "w", 0);
        r.enter(0, Rig.connect("x", 4, 0, Rig.expiry(9), Rig.properties(24, Rig.four(5)), "w", "p"));
        r.listen(0, "a", 0);
        r.broker.lose(0);
        r.broker.pass(4);
        r.sends(3);
        r.broker.open(0);
        r.feed(0, Rig.connect("x", 2, 0, Rig.expiry(9)));
        r.sends(0, Rig.connack(false));
        r.sends(3, Rig.publish(0, "w", 0, "p"));
        r.session(1, 1, 0);
        // One whose will has come already, and one that is not there.
        r.broker.lose(0);
        r.enter(0, Rig.connect("x", 2, 0, Rig.expiry(9)));
        r.enter(1, Rig.connect("z", 2, 0, Rig.expiry(9)));
        r.sends(3);
        r.told(0, 3);
    }

    private static void cleanAndTakenOver() {
        Check.about("that connection gets DISCONNECT with 142 and is LOST first [..] CLEAN: the session ENDS");
        Rig r = new Rig();
        r.enter(3, "seer", 9);
        r.listen(3, "w", 0);
        r.enter(0, Rig.connect("x", 4, 0, Rig.expiry(9), Rig.properties(24, Rig.four(5)), "w", "p"));
        r.broker.open(1);
        r.feed(1, Rig.connect("x", 2, 0, Rig.expiry(9)));
        r.closedWith(0, Rig.farewell(142));
        r.sends(1, Rig.connack(false));
        r.sends(3, Rig.publish(0, "w", 0, "p"));
        r.told(4, 1);
    }

    private static void withoutASession() {
        Check.about("Without a session it gets a new one.");
        Rig r = opened();
        r.feed(0, Rig.connect("x", 0, 0, NONE));
        r.sends(0, Rig.connack(false));
        for (int what = 1; what <= 5; what++) {
            r.session(0, what, 0);
        }
    }

    private static void theWillThatComesNoMore() {
        Check.about("A will of a session that goes on, that is to come yet, does not come any more.");
        Rig r = new Rig();
        r.enter(3, "seer", 9);
        r.listen(3, "w", 0);
        int[] delay = Rig.properties(24, Rig.four(5));
        r.enter(0, Rig.connect("x", 4, 0, Rig.expiry(9), delay, "w", "p"));
        r.broker.lose(0);
        r.broker.pass(4);
        r.session(1, 5, 1);
        r.enter(0, "x", 9);
        r.session(1, 5, 0);
        r.broker.pass(100);
        r.broker.lose(0);
        r.broker.pass(9);
        r.told(4, 0);
        // Nor does that of one that is taken over, for it is to come yet.
        r.enter(0, Rig.connect("x", 4, 0, Rig.expiry(9), delay, "w", "p"));
        r.enter(1, "x", 9);
        r.broker.pass(100);
        r.told(4, 0);
        r.sends(3);
    }

    private static void whatIsNotTold() {
        Check.about("Its EXPIRY (0 if it is not told), MOST (65535), SIZE (none)");
        Rig r = new Rig();
        r.enter(0, Rig.connect("x", 0, 0, NONE));
        Check.same("EXPIRY", 0, r.broker.expiry(0));
        r.session(0, 8, 65535);
        r.listen(0, "t", 0);
        int[] longest = Rig.publish(0, "t", 0, Rig.repeat("p", 396));
        r.feed(0, longest);
        r.sends(0, longest);
        r.broker.lose(0);
        r.told(0, 0);
    }

    private static void whatThisConnectTells() {
        Check.about("KEEP and will are those of this CONNECT");
        Rig r = new Rig();
        int[] all = Rig.properties(17, Rig.four(9), 33, Rig.two(3), 39, Rig.four(12));
        r.enter(0, Rig.connect("x", 4, 7, all, 0, "w", ""));
        r.enter(1, "y", 9);
        r.enter(2, Rig.connect("x", 0, 0, Rig.expiry(5)));
        Check.same("EXPIRY", 5, r.broker.expiry(0));
        r.session(0, 5, 0);
        r.session(0, 7, 0);
        r.session(0, 8, 65535);
        // The SIZE of before does not count either.
        r.listen(2, "t", 0);
        r.feed(1, Rig.publish(0, "t", 0, "longer than twelve"));
        r.sends(2, Rig.publish(0, "t", 0, "longer than twelve"));
        r.enter(3, Rig.connect("x", 4, 7, all, 0, "w", ""));
        Check.same("EXPIRY", 9, r.broker.expiry(0));
        r.session(0, 5, 1);
        r.session(0, 7, 7);
        r.session(0, 8, 3);
    }

    private static void connackTells() {
        Check.about("CONNACK: 32, a VARIABLE, 1 if the session was there and goes on, else 0; 0; properties:"
                + " 33 with 8, 39 with 403, 34 with 4");
        int[] head = {32, 14};
        int[] properties = {0, 11, 33, 0, 8, 39, 0, 0, 1, 147, 34, 0, 4};
        Rig r = opened();
        r.feed(0, Rig.connect("x", 0, 0, Rig.expiry(9)));
        r.sends(0, head, new int[] {0}, properties);
        r.broker.lose(0);
        r.broker.open(0);
        r.feed(0, Rig.connect("x", 0, 0, Rig.expiry(9)));
        r.sends(0, head, new int[] {1}, properties);
        r.broker.lose(0);
        r.broker.open(0);
        r.feed(0, Rig.connect("x", 2, 0, Rig.expiry(1)));
        r.sends(0, head, new int[] {0}, properties);
        r.broker.lose(0);
        r.broker.pass(1);
        r.broker.open(0);
        r.feed(0, Rig.connect("x", 0, 0, Rig.expiry(9)));
        r.sends(0, head, new int[] {0}, properties);
    }

    private static void connackOfAMadeId() {
        Check.about("and 18 with the id as a STRING, if it was made");
        Rig r = opened();
        r.feed(0, Rig.connect("", 0, 0, Rig.expiry(9)));
        r.sends(0, new int[] {32, 22, 0, 0, 19, 33, 0, 8, 39, 0, 0, 1, 147, 34, 0, 4, 18, 0, 5},
                Rig.raw("auto1"));
        r.broker.lose(0);
        // Who tells that id himself goes on with that session, and no id is made.
        r.broker.open(0);
        r.feed(0, Rig.connect("auto1", 0, 0, Rig.expiry(9)));
        r.sends(0, Rig.connack(true));
        r.told(7, 1);
    }

    private static void sentAgainInOrder() {
        Check.about("Then all messages ON THE WAY are sent again in the order of their numbers' first sending:"
                + " a PUBLISH with flag 8, or the PUBREL of one that is RELEASED");
        Rig r = new Rig();
        r.enter(0, "x", 99);
        r.listen(0, "t", 10);
        r.enter(1, "y", 99);
        r.feed(1, Rig.publish(2, "t", 1, "a"));
        r.feed(1, Rig.publish(4, "t", 2, "b"));
        r.feed(1, Rig.publish(5, "t", 3, "c"));
        r.feed(0, Rig.answer(64, 1));
        r.feed(1, Rig.publish(3, "t", 1, "d"));
        r.feed(0, Rig.answer(80, 2));
        r.feed(1, Rig.publish(0, "t", 0, "quality 0 is not sent again"));
        for (int i = 0; i < 2; i++) {
            r.broker.lose(0);
            r.broker.open(0);
            r.feed(0, Rig.connect("x", 0, 0, Rig.expiry(99)));
            r.sends(0, Rig.connack(true), Rig.answer(98, 2), Rig.publish(13, "t", 3, "c"),
                    Rig.publish(11, "t", 1, "d"));
        }
        r.session(0, 2, 3);
    }

    private static void sentAgainThoughGone() {
        Check.about("(also what is gone by its LIFE, with 0 left");
        for (int passed : new int[] {2, 3, 4}) {
            Rig r = new Rig();
            r.enter(0, "x", 99);
            r.listen(0, "t", 1);
            r.feed(0, Rig.publish(2, "t", 1, Rig.properties(2, Rig.four(3)), "p"));
            r.broker.lose(0);
            r.broker.pass(passed);
            r.broker.open(0);
            r.feed(0, Rig.connect("x", 0, 0, Rig.expiry(99)));
            int[] left = Rig.properties(2, Rig.four(Math.max(0, 3 - passed)));
            r.sends(0, Rig.connack(true), Rig.publish(10, "t", 1, left, "p"));
            r.session(0, 2, 1);
        }
    }

    private static void sentAgainBeyondSize() {
        Check.about("what has more bytes than SIZE is DROPPED, and no more ON THE WAY)");
        int size = Rig.publish(2, "t", 1, "1234").length;
        Rig r = new Rig();
        r.enter(0, "x", 99);
        r.listen(0, "t", 2);
        r.feed(0, Rig.publish(2, "t", 1, "12345"));
        r.feed(0, Rig.publish(2, "t", 1, "1234"));
        r.feed(0, Rig.publish(4, "t", 1, "this one is RELEASED"));
        r.feed(0, Rig.answer(80, 3));
        r.feed(0, Rig.publish(2, "t", 1, Rig.properties(2, Rig.four(1)), "gone, and too long"));
        r.broker.lose(0);
        r.broker.pass(1);
        r.broker.open(0);
        r.feed(0, Rig.connect("x", 0, 0, Rig.properties(17, Rig.four(99), 39, Rig.four(size))));
        r.sends(0, Rig.connack(true), Rig.publish(10, "t", 2, "1234"), Rig.answer(98, 3));
        r.told(5, 2);
        r.session(0, 2, 2);
        r.feed(0, Rig.publish(2, "t", 1, "new"));
        r.sends(0, Rig.publish(2, "t", 1, "new"), Rig.answer(64, 1));
    }

    private static void thenWhatWaits() {
        Check.about("then what WAITS goes on");
        Rig r = new Rig();
        r.enter(0, Rig.connect("x", 0, 0, Rig.properties(17, Rig.four(99), 33, Rig.two(1))));
        r.listen(0, "t", 1);
        r.enter(1, "y", 99);
        for (int i = 1; i <= 4; i++) {
            r.feed(1, Rig.publish(2, "t", 1, "m" + i));
        }
        r.broker.lose(0);
        r.broker.open(0);
        r.feed(0, Rig.connect("x", 0, 0, Rig.properties(17, Rig.four(99), 33, Rig.two(3))));
        r.sends(0, Rig.connack(true), Rig.publish(10, "t", 1, "m1"), Rig.publish(2, "t", 2, "m2"),
                Rig.publish(2, "t", 3, "m3"));
        r.session(0, 3, 1);
        // What is DROPPED as it is sent again makes room for what WAITS.
        r.broker.lose(0);
        r.broker.open(0);
        int size = Rig.publish(2, "t", 1, "m1").length - 1;
        r.feed(0, Rig.connect("x", 0, 0, Rig.properties(17, Rig.four(99), 33, Rig.two(3), 39, Rig.four(size))));
        r.sends(0, Rig.connack(true));
        r.session(0, 2, 0);
        r.session(0, 3, 0);
        r.told(5, 4);
    }
}
