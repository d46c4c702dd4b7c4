/** Promise 3, part 6 of the terms: who gets a message, how, and what answers do to it. */
public final class DistributeTest {
    public static void main(String[] args) {
        whatMatches();
        orderOfSessionsAndSubscriptions();
        noLocal();
        qualityAndRetain();
        propertiesAsTheyCame();
        lifeGrowsLess();
        onTheWayUpToMost();
        onTheWayUpToSixteen();
        waitingIsFull();
        whatIsGoneIsSkipped();
        sizeOfMessages();
        sizeOfWhatWaits();
        acknowledged();
        received();
        refusedMakesRoom();
        completed();
        widthsOfIdentifiers();
        leastNumbers();
        sharedInTurn();
        sharedPrefersOnline();
        sharedByNameAndFilter();
        sharedKeepsItsPlace();
        onTheWayThoughOutIsFull();
        Check.end();
    }

    private static void whatMatches() {
        String[][] yes = {{"a", "a"}, {"a/b", "a/b"}, {"+", "a"}, {"a/+", "a/"}, {"a/+", "a/b"},
            {"+/+", "/"}, {"+/+", "a/b"}, {"/+", "/a"}, {"#", "a"}, {"#", "a/b"}, {"#", "/"}, {"a/#", "a"},
            {"a/#", "a/"}, {"a/#", "a/b"}, {"a/#", "a/b/c"}, {"+/#", "a"}, {"+/#", "a/b"}, {"a/+/#", "a/b"},
            {"a/+/c", "a/b/c"}, {"a/+/c", "a//c"}, {"$a/#", "$a/b"}, {"$a/#", "$a"}, {"$a/+", "$a/b"},
            {"/#", "/"}, {"/#", "/a"}, {"a/b/#", "a/b"}, {"+/b", "a/b"}, {"+/b", "/b"}, {"//#", "/"},
            {"a/$b", "a/$b"}, {"a/+", "a/$b"}, {"a/#", "a/$"}, {"$share", "$share"}, {"$", "$"}};
        String[][] no = {{"a", "b"}, {"a", "a/b"}, {"a/b", "a"}, {"a", "aa"}, {"aa", "a"}, {"+", "a/b"},
            {"+", "/"}, {"a/+", "a"}, {"a/+", "a/b/c"}, {"a/+", "b/c"}, {"+/+", "a"}, {"a/#", "ab"},
            {"a/#", "b"}, {"a/b/#", "a"}, {"a/+/#", "a"}, {"a/+/c", "a/b/d"}, {"a/+/c", "a/b"}, {"#", "$a"},
            {"+", "$a"}, {"+/b", "$a/b"}, {"#", "$"}, {"+/#", "$a/b"}, {"a/", "a"}, {"a", "a/"}, {"/a", "a"},
            {"A", "a"}, {"/#", "a"}, {"//#", "/a"}, {"a/b", "a/c"}, {"a/b/+", "a/b"}};
        for (String[] pair : yes) {
            matches(pair[0], pair[1], true);
        }
        for (String[] pair : no) {
            matches(pair[0], pair[1], false);
        }
    }

    private static void matches(String filter, String topic, boolean due) {
        Rig r = new Rig();
        r.enter(0, "x", 9);
        r.feed(0, Rig.subscribe(1, filter, 0, "$share/n/" + filter, 0));
        r.sends(0, Rig.suback(1, 0, 0));
        r.feed(0, Rig.publish(2, topic, 1, "p"));
        int[] once = Rig.publish(0, topic, 0, "p");
        if (due) {
            r.sends(0, once, once, Rig.answer(64, 1));
        } else {
            r.sends(0, Rig.answer(64, 1, 16));
        }
        // It is the same for RETAINED messages that are there before.
        r.feed(0, Rig.publish(1, topic, 0, "p"));
        r.enter(1, "y", 9);
        r.feed(1, Rig.subscribe(1, filter, 0));
        r.sends(1, Rig.suback(1, 0), due ? Rig.publish(1, topic, 0, "p") : new int[0]);
    }

    private static void orderOfSessionsAndSubscriptions() {
        Rig r = new Rig();
        r.enter(3, "x", 9);
        r.feed(3, Rig.packet(130, Rig.two(1), Rig.properties(11, 1), "a/+", 0, "none", 0, "#", 0));
        r.feed(3, Rig.packet(130, Rig.two(1), Rig.properties(11, 200, 1), "a/b", 0));
        r.broker.take(3, 99);
        r.feed(3, Rig.publish(0, "a/b", 0, "p"));
        r.sends(3, Rig.publish(0, "a/b", 0, Rig.properties(11, 1), "p"),
                Rig.publish(0, "a/b", 0, Rig.properties(11, 1), "p"),
                Rig.publish(0, "a/b", 0, Rig.properties(11, 200, 1), "p"));
        for (int k = 0; k < 4; k++) {
            Check.same("got", k == 1 ? 0 : 1, r.broker.subscription(0, k, 3));
        }
    }

    private static void noLocal() {
        Rig r = new Rig();
        r.enter(0, Rig.connect("x", 4, 0, Rig.expiry(9), 0, "t", "will"));
        r.enter(1, "y", 9);
        r.listen(0, "t", 5);
        r.listen(1, "t", 4);
        r.feed(0, Rig.publish(0, "t", 0, "x"));
        r.sends(0);
        r.sends(1, Rig.publish(0, "t", 0, "x"));
        r.feed(1, Rig.publish(2, "t", 6, "y"));
        r.sends(0, Rig.publish(2, "t", 1, "y"));
        r.sends(1, Rig.answer(64, 6));
        r.feed(0, Rig.answer(64, 1));
        // A will comes from its session too.
        r.broker.lose(0);
        r.sends(1, Rig.publish(0, "t", 0, "will"));
        r.session(0, 3, 0);
        Check.same("got", 1, r.broker.subscription(0, 0, 3));
        r.feed(1, Rig.unsubscribe(1, "t"));
        r.enter(0, "x", 9);
        r.feed(0, Rig.publish(2, "t", 1, ""));
        r.sends(0, Rig.answer(64, 1, 16));
    }

    private static void qualityAndRetain() {
        for (int of = 0; of < 3; of++) {
            for (int wanted = 0; wanted < 3; wanted++) {
                for (int options = 0; options <= 8; options += 8) {
                    for (int retain = 0; retain < 2; retain++) {
                        Rig r = new Rig();
                        r.enter(0, "pub", 9);
                        r.enter(1, "sub", 9);
                        r.listen(1, "t", wanted | options);
                        r.feed(0, Rig.publish(of << 1 | retain, "t", 5, "p"));
                        int quality = Math.min(of, wanted);
                        r.sends(1, Rig.publish(quality << 1 | (options == 8 ? retain : 0), "t", 1, "p"));
                        r.session(1, 2, quality > 0 ? 1 : 0);
                    }
                }
            }
        }
    }

    private static void propertiesAsTheyCame() {
        Rig r = new Rig();
        r.enter(0, "pub", 9);
        r.enter(1, "sub", 9);
        r.feed(1, Rig.packet(130, Rig.two(1), Rig.properties(38, "u", "v", 11, 128, 1), "t", 2));
        r.sends(1, Rig.suback(1, 2));
        r.feed(0, Rig.publish(4, "t", 5, Rig.properties(38, "k", "v1", 9, "c\u0000", 35, Rig.two(3), 8, "re",
                38, "k", "", 3, "type", 2, Rig.four(70000), 38, "", "z", 1, 1), "p"));
        r.sends(1, Rig.publish(4, "t", 1, Rig.properties(1, 1, 2, Rig.four(70000), 3, "type", 8, "re",
                9, "c\u0000", 11, 128, 1, 38, "k", "v1", 38, "k", "", 38, "", "z"), "p"));
        r.feed(0, Rig.publish(0, "t", 5, Rig.properties(1, 0), ""));
        r.sends(1, Rig.publish(0, "t", 1, Rig.properties(1, 0, 11, 128, 1), ""));
        // Long properties have a length of two bytes, and so has the packet.
        String text = Rig.repeat("u", 300);
        r.feed(0, Rig.publish(0, "t", 5, Rig.properties(38, text, "v"), "pay"));
        r.sends(1, Rig.publish(0, "t", 1, Rig.properties(11, 128, 1, 38, text, "v"), "pay"));
        r.feed(1, Rig.packet(130, Rig.two(1), Rig.properties(11, 255, 255, 255, 127), "t", 0));
        r.sends(1, Rig.suback(1, 0));
        r.feed(0, Rig.publish(0, "t", 5, "pay"));
        r.sends(1, Rig.publish(0, "t", 1, Rig.properties(11, 255, 255, 255, 127), "pay"));
    }

    private static void lifeGrowsLess() {
        Rig r = new Rig();
        r.enter(0, "pub", 99);
        r.enter(1, "sub", 99);
        r.listen(1, "t", 1);
        r.broker.lose(1);
        r.broker.pass(7);
        r.feed(0, Rig.publish(2, "t", 5, Rig.properties(2, Rig.four(10)), "p"));
        r.feed(0, Rig.publish(2, "t", 5, Rig.properties(2, Rig.four(Rig.NEVER)), "p"));
        r.broker.pass(4);
        r.broker.open(1);
        r.feed(1, Rig.connect("sub", 0, 0, Rig.expiry(99)));
        r.sends(1, Rig.connack(true), Rig.publish(2, "t", 1, Rig.properties(2, Rig.four(6)), "p"),
                Rig.publish(2, "t", 2, Rig.properties(2, Rig.four(Rig.NEVER - 4)), "p"));
    }

    private static void onTheWayUpToMost() {
        Rig r = new Rig();
        r.enter(0, "pub", 99);
        r.enter(1, Rig.connect("sub", 0, 0, Rig.properties(17, Rig.four(99), 33, Rig.two(2))));
        r.listen(1, "t", 1);
        for (int i = 1; i <= 4; i++) {
            r.feed(0, Rig.publish(2, "t", i, "m" + i));
        }
        r.feed(0, Rig.publish(0, "t", 0, "quick"));
        r.sends(1, Rig.publish(2, "t", 1, "m1"), Rig.publish(2, "t", 2, "m2"), Rig.publish(0, "t", 0, "quick"));
        r.session(1, 2, 2);
        r.session(1, 3, 2);
        r.feed(1, Rig.answer(64, 2));
        r.sends(1, Rig.publish(2, "t", 2, "m3"));
        r.feed(1, Rig.answer(64, 1, 200));
        r.sends(1, Rig.publish(2, "t", 1, "m4"));
        r.session(1, 2, 2);
        r.session(1, 3, 0);
    }

    private static void onTheWayUpToSixteen() {
        Rig r = new Rig();
        r.enter(0, "pub", 99);
        r.enter(1, "sub", 99);
        r.listen(1, "t", 2);
        for (int i = 1; i <= 18; i++) {
            r.feed(0, Rig.publish(i % 2 == 0 ? 2 : 4, "t", i, ""));
            r.feed(0, Rig.answer(98, i));
            r.broker.take(0, 99);
        }
        r.session(1, 2, 16);
        r.session(1, 3, 2);
        r.broker.take(1, 999);
        r.feed(1, Rig.answer(64, 16));
        r.sends(1, Rig.publish(4, "t", 16, ""));
        r.session(1, 2, 16);
        r.session(1, 3, 1);
    }

    private static void waitingIsFull() {
        Rig r = new Rig();
        r.enter(0, "pub", 99);
        r.enter(1, "sub", 99);
        r.listen(1, "t", 1);
        r.broker.lose(1);
        for (int i = 1; i <= 26; i++) {
            r.feed(0, Rig.publish(2, "t", i, "m" + i));
            r.sends(0, Rig.answer(64, i));
        }
        r.session(1, 3, 24);
        r.told(5, 2);
        Check.same("got", 26, r.broker.subscription(1, 0, 3));
        r.enter(1, "sub", 99);
        r.session(1, 2, 16);
        r.session(1, 3, 8);
        for (int i = 1; i <= 16; i++) {
            r.feed(1, Rig.answer(64, i));
        }
        r.session(1, 2, 8);
        r.sends(1, Rig.publish(2, "t", 1, "m17"), Rig.publish(2, "t", 2, "m18"), Rig.publish(2, "t", 3, "m19"),
                Rig.publish(2, "t", 4, "m20"), Rig.publish(2, "t", 5, "m21"), Rig.publish(2, "t", 6, "m22"),
                Rig.publish(2, "t", 7, "m23"), Rig.publish(2, "t", 8, "m24"));
    }

    private static void whatIsGoneIsSkipped() {
        Rig r = new Rig();
        r.enter(0, "pub", 99);
        r.enter(1, Rig.connect("sub", 0, 0, Rig.properties(17, Rig.four(99), 33, Rig.two(1))));
        r.listen(1, "t", 1);
        r.feed(0, Rig.publish(2, "t", 1, "first"));
        r.feed(0, Rig.publish(2, "t", 1, Rig.properties(2, Rig.four(2)), "short"));
        r.feed(0, Rig.publish(2, "t", 1, Rig.properties(2, Rig.four(3)), "long"));
        r.session(1, 3, 2);
        r.broker.take(1, 999);
        r.broker.pass(2);
        r.feed(1, Rig.answer(64, 1));
        r.sends(1, Rig.publish(2, "t", 1, Rig.properties(2, Rig.four(1)), "long"));
        r.session(1, 3, 0);
        r.told(5, 0);
    }

    private static void sizeOfMessages() {
        Rig r = new Rig();
        r.enter(0, "pub", 99);
        int size = Rig.publish(2, "t", 1, "1234").length;
        r.enter(1, Rig.connect("sub", 0, 0, Rig.properties(17, Rig.four(99), 39, Rig.four(size))));
        r.listen(1, "t", 1);
        r.feed(0, Rig.publish(2, "t", 1, "12345"));
        r.sends(1);
        r.session(1, 2, 0);
        r.told(5, 1);
        Check.same("got", 1, r.broker.subscription(1, 0, 3));
        r.feed(0, Rig.publish(2, "t", 1, "1234"));
        r.sends(1, Rig.publish(2, "t", 1, "1234"));
        // Quality 0 has no number, so its payload may be two bytes longer.
        r.feed(0, Rig.publish(0, "t", 0, "123456"));
        r.sends(1, Rig.publish(0, "t", 0, "123456"));
        r.feed(0, Rig.publish(0, "t", 0, "1234567"));
        r.sends(1);
        r.told(5, 2);
        // SIZE is of messages alone: SUBACK may be longer.
        r.feed(1, Rig.subscribe(1, "a", 0, "b", 0, "c", 0, "d", 0, "e", 0, "f", 0, "g", 0, "h", 0));
        r.sends(1, Rig.suback(1, 0, 0, 0, 0, 0, 0, 0, 151));
    }

    private static void sizeOfWhatWaits() {
        Rig r = new Rig();
        r.enter(0, "pub", 99);
        int size = Rig.publish(2, "t", 1, "1234").length;
        r.enter(1, Rig.connect("sub", 0, 0, Rig.properties(17, Rig.four(99), 39, Rig.four(size), 33, Rig.two(1))));
        r.listen(1, "t", 1);
        r.feed(0, Rig.publish(2, "t", 1, "a"));
        r.feed(0, Rig.publish(2, "t", 1, "too long"));
        r.feed(0, Rig.publish(2, "t", 1, "b"));
        r.session(1, 3, 2);
        r.told(5, 0);
        r.feed(1, Rig.answer(64, 1));
        r.sends(1, Rig.publish(2, "t", 1, "a"), Rig.publish(2, "t", 1, "b"));
        r.told(5, 1);
        r.session(1, 3, 0);
    }

    /** A client with two messages ON THE WAY: 1 of quality 1, 2 of quality 2. */
    private static Rig onTheWay() {
        Rig r = new Rig();
        r.enter(0, "pub", 99);
        r.enter(1, "sub", 99);
        r.listen(1, "t", 2);
        r.feed(0, Rig.publish(2, "t", 1, "a"));
        r.feed(0, Rig.publish(4, "t", 1, "b"));
        r.broker.take(1, 999);
        r.session(1, 2, 2);
        return r;
    }

    private static void acknowledged() {
        Rig r = onTheWay();
        r.feed(1, Rig.answer(64, 2));
        r.feed(1, Rig.answer(64, 3));
        r.session(1, 2, 2);
        r.feed(1, Rig.answer(64, 1, 16));
        r.session(1, 2, 1);
        r.feed(1, Rig.answer(64, 1));
        r.session(1, 2, 1);
        r.sends(1);
    }

    private static void received() {
        Rig r = onTheWay();
        r.feed(1, Rig.answer(80, 1));
        r.feed(1, Rig.answer(80, 3));
        r.feed(1, Rig.answer(80, 3, 128));
        r.sends(1, Rig.answer(98, 1, 146), Rig.answer(98, 3, 146), Rig.answer(98, 3, 146));
        r.feed(1, Rig.answer(80, 2, 127));
        r.feed(1, Rig.answer(80, 2));
        r.sends(1, Rig.answer(98, 2), Rig.answer(98, 2));
        r.session(1, 2, 2);
        r.feed(1, Rig.answer(80, 2, 128));
        r.session(1, 2, 1);
        r.sends(1);
        Rig q = onTheWay();
        q.feed(1, Rig.answer(80, 2, 255));
        q.session(1, 2, 1);
        q.sends(1);
    }

    private static void refusedMakesRoom() {
        Rig r = new Rig();
        r.enter(0, "pub", 99);
        r.enter(1, Rig.connect("sub", 0, 0, Rig.properties(33, Rig.two(1))));
        r.listen(1, "t", 2);
        for (int n = 1; n <= 3; n++) {
            r.feed(0, Rig.publish(4, "t", n, "m" + n));
        }
        r.feed(1, Rig.answer(80, 1, 151));
        r.sends(1, Rig.publish(4, "t", 1, "m1"), Rig.publish(4, "t", 1, "m2"));
        r.feed(1, Rig.answer(80, 1));
        r.feed(1, Rig.answer(112, 1));
        r.sends(1, Rig.answer(98, 1), Rig.publish(4, "t", 1, "m3"));
    }

    private static void widthsOfIdentifiers() {
        for (int identifier : new int[] {1, 127, 128, 16383, 16384, 2097151, 2097152, 268435455}) {
            Rig r = new Rig();
            r.enter(0, "x", 9);
            int[] told = Rig.properties(11, Rig.variable(identifier));
            r.feed(0, Rig.packet(130, Rig.two(1), told, "t", 0));
            r.broker.take(0, 99);
            Check.same("identifier", identifier, r.broker.subscription(0, 0, 1));
            r.feed(0, Rig.publish(0, "t", 0, "p"));
            r.sends(0, Rig.publish(0, "t", 0, told, "p"));
        }
    }

    private static void completed() {
        Rig r = onTheWay();
        r.feed(1, Rig.answer(112, 2));
        r.feed(1, Rig.answer(112, 1));
        r.feed(1, Rig.answer(112, 9));
        r.session(1, 2, 2);
        r.feed(1, Rig.answer(80, 2));
        r.sends(1, Rig.answer(98, 2));
        r.feed(1, Rig.answer(64, 2));
        r.session(1, 2, 2);
        r.feed(1, Rig.answer(112, 2, 146));
        r.session(1, 2, 1);
        r.sends(1);
    }

    private static void leastNumbers() {
        Rig r = onTheWay();
        r.feed(0, Rig.publish(2, "t", 1, "c"));
        r.sends(1, Rig.publish(2, "t", 3, "c"));
        r.feed(1, Rig.answer(64, 1));
        r.feed(0, Rig.publish(2, "t", 1, "d"));
        r.sends(1, Rig.publish(2, "t", 1, "d"));
        r.feed(0, Rig.publish(2, "t", 1, "e"));
        r.sends(1, Rig.publish(2, "t", 4, "e"));
    }

    private static Rig shared(int members) {
        Rig r = new Rig();
        r.enter(0, "pub", 99);
        for (int c = 1; c <= members; c++) {
            r.enter(c, "m" + c, 99);
            r.listen(c, "$share/g/t", 1);
        }
        return r;
    }

    /** Publishes, and tells which connections got it. */
    private static String getters(Rig r, String topic) {
        r.feed(0, Rig.publish(0, topic, 0, "p"));
        StringBuilder text = new StringBuilder();
        for (int c = 1; c < 8; c++) {
            text.append(r.broker.size(c) > 0 ? Integer.toString(c) : "");
            r.broker.take(c, 999);
        }
        return text.toString();
    }

    private static void sharedInTurn() {
        Rig r = shared(3);
        Check.same("turns", "1 2 3 1", getters(r, "t") + " " + getters(r, "t") + " " + getters(r, "t") + " "
                + getters(r, "t"));
        r.enter(4, "m4", 99);
        r.listen(4, "$share/g/t", 0);
        Check.same("who never did", "4 2 3", getters(r, "t") + " " + getters(r, "t") + " " + getters(r, "t"));
        Check.same("got", 2, r.broker.subscription(1, 0, 3));
        // Other messages that are distributed between do not change the turn.
        getters(r, "other");
        Check.same("turn", "1", getters(r, "t"));
    }

    private static void sharedPrefersOnline() {
        Rig r = shared(3);
        r.broker.lose(1);
        r.feed(0, Rig.publish(2, "t", 1, "a"));
        r.sends(2, Rig.publish(2, "t", 1, "a"));
        r.session(1, 3, 0);
        r.broker.lose(2);
        Check.same("turns", "3 3", getters(r, "t") + " " + getters(r, "t"));
        r.broker.lose(3);
        r.feed(0, Rig.publish(2, "t", 1, "b"));
        r.session(1, 3, 1);
        r.feed(0, Rig.publish(2, "t", 1, "c"));
        r.session(2, 3, 1);
        r.feed(0, Rig.publish(2, "t", 1, "d"));
        r.session(3, 3, 1);
        r.feed(0, Rig.publish(0, "t", 1, "e"));
        Check.same("got", 2, r.broker.subscription(1, 0, 3));
        r.told(5, 0);
    }

    private static void sharedByNameAndFilter() {
        Rig r = shared(2);
        r.listen(1, "$share/h/t", 0);
        r.listen(2, "t", 0);
        r.listen(2, "$share/g/+", 0);
        r.feed(0, Rig.publish(0, "t", 0, "p"));
        int[] p = Rig.publish(0, "t", 0, "p");
        r.sends(1, p, p);
        r.sends(2, p, p);
        r.feed(0, Rig.publish(0, "t", 0, "p"));
        r.sends(1, p);
        r.sends(2, p, p, p);
    }

    private static void sharedKeepsItsPlace() {
        // The one that is chosen gets it at the place of the first: before the others of session 1.
        Rig r = new Rig();
        r.enter(0, "pub", 99);
        r.enter(1, "m1", 99);
        r.feed(1, Rig.subscribe(1, "$share/g/t", 0, "t", 0));
        r.enter(2, "m2", 99);
        r.feed(2, Rig.packet(130, Rig.two(1), Rig.properties(11, 1), "t", 0));
        r.feed(2, Rig.packet(130, Rig.two(1), Rig.properties(11, 2), "$share/g/t", 0));
        r.feed(0, Rig.publish(0, "t", 0, "a"));
        r.broker.take(1, 999);
        r.broker.take(2, 999);
        r.feed(0, Rig.publish(0, "t", 0, "b"));
        r.sends(1, Rig.publish(0, "t", 0, "b"));
        r.sends(2, Rig.publish(0, "t", 0, Rig.properties(11, 2), "b"),
                Rig.publish(0, "t", 0, Rig.properties(11, 1), "b"));
        // To be told anew does not make it one that never did.
        r.listen(1, "$share/g/t", 1);
        r.feed(0, Rig.publish(2, "t", 1, "c"));
        r.sends(1, Rig.publish(2, "t", 1, "c"), Rig.publish(0, "t", 0, "c"));
        r.listen(2, "$share/g/t", 1);
        r.listen(1, "$share/g/t", 1);
        r.feed(0, Rig.publish(2, "t", 1, "d"));
        r.sends(1, Rig.publish(0, "t", 0, "d"));
    }

    private static void onTheWayThoughOutIsFull() {
        Rig r = new Rig();
        r.enter(0, "pub", 99);
        r.enter(1, "sub", 99);
        r.listen(1, "t", 1);
        r.fill(1, 1998);
        r.feed(0, Rig.publish(2, "t", 1, "a"));
        r.sends(0, Rig.answer(64, 1));
        Check.yes("closed", !r.broker.isOpen(1));
        Check.same("size", 1998, r.broker.size(1));
        r.session(1, 2, 1);
        r.session(1, 3, 0);
        r.broker.open(1);
        r.feed(1, Rig.connect("sub", 0, 0, Rig.expiry(99)));
        r.sends(1, Rig.connack(true), Rig.publish(10, "t", 1, "a"));
    }
}
