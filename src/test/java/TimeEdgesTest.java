/** The edges of part 8 of the terms, LOST, ENDS, TIME, a test for each sentence. */
public final class TimeEdgesTest {
    private static final int[] NONE = Rig.properties();

    public static void main(String[] args) {
        lostIsClosed();
        lostWithoutASession();
        aliasesGo();
        willAtOnce();
        willLater();
        willOfTheLongestDelay();
        willWhenTheSessionEndsBefore();
        willInTheSecondOfTheEnd();
        willIsRetained();
        willIsNotRetained();
        willWithoutRoom();
        willWithoutPayload();
        willOfItsQuality();
        willFromThatSession();
        willHasNoAnswer();
        willOnce();
        expiryOfNone();
        expiryOfNoneBehindTheWill();
        expiryOfNever();
        expiryOfSeconds();
        onlineOnesDoNotEnd();
        allItHasGoes();
        quietForKeep();
        quietWithoutKeep();
        quietWithoutASession();
        quietIsCountedFromTheLastPacket();
        quietByConnections();
        quietInTheMiddleOfMany();
        willsByNumbers();
        willsBeforeEnds();
        endsByNumbers();
        endsInTheMiddleOfMany();
        aCallThatThrowsChangesNothing();
        Check.end();
    }

    /** On 7 a client "seer", session 0, that hears all. */
    private static Rig withSeer() {
        Rig r = new Rig();
        r.enter(7, "seer", 9999);
        r.listen(7, "#", 10);
        return r;
    }

    private static int[] will(String id, long expiry, long delay, String topic) {
        return Rig.connect(id, 4, 0, Rig.expiry(expiry), Rig.properties(24, Rig.four(delay)), topic, "p");
    }

    private static int[] heard(String topic) {
        return Rig.publish(0, topic, 0, "p");
    }

    private static void lostIsClosed() {
        Check.about("A connection that is LOST is closed, and its session, if it has one, is not ONLINE any more");
        Rig r = new Rig();
        r.enter(0, "x", 9);
        r.session(0, 0, 0);
        r.broker.lose(0);
        Check.yes("closed", !r.broker.isOpen(0));
        r.session(0, 0, -1);
        r.sends(0);
    }

    private static void lostWithoutASession() {
        Check.about("its session, if it has one");
        Rig r = new Rig();
        r.enter(1, "x", 9);
        r.broker.open(0);
        r.broker.lose(0);
        Check.yes("closed", !r.broker.isOpen(0));
        r.session(0, 0, 1);
        r.told(0, 1);
        r.told(3, 1);
    }

    private static void aliasesGo() {
        Check.about("its aliases go");
        for (int alias = 1; alias <= 4; alias++) {
            Rig r = new Rig();
            r.enter(0, "x", 9);
            int[] properties = Rig.properties(35, Rig.two(alias));
            r.feed(0, Rig.publish(0, "t", 0, properties, ""));
            r.broker.lose(0);
            r.enter(0, "x", 9);
            r.feed(0, Rig.publish(0, "", 0, properties, ""));
            r.closedWith(0, Rig.farewell(130));
        }
    }

    private static void willAtOnce() {
        Check.about("A will comes DELAY seconds later, at once for 0");
        Rig r = withSeer();
        r.enter(0, will("x", 99, 0, "w"));
        r.enter(1, Rig.connect("y", 4, 0, Rig.expiry(99), 0, "w/y", "p"));
        r.session(1, 5, 1);
        r.broker.lose(0);
        r.sends(7, heard("w"));
        r.session(1, 5, 0);
        r.broker.lose(1);
        r.sends(7, heard("w/y"));
        // A fault and the time bring it as well.
        r.enter(0, will("x", 99, 0, "w"));
        r.feed(0, 0, 0);
        r.sends(7, heard("w"));
        r.enter(0, Rig.connect("x", 4, 1, Rig.expiry(99), 0, "w", "p"));
        r.broker.pass(2);
        r.sends(7, heard("w"));
    }

    private static void willLater() {
        Check.about("A will comes DELAY seconds later");
        for (int delay : new int[] {1, 2, 4000, 4001}) {
            Rig r = withSeer();
            r.enter(0, will("x", 9999, delay, "w"));
            r.broker.pass(7);
            r.broker.lose(0);
            r.broker.pass(Math.min(delay - 1, 4000));
            r.sends(7);
            r.session(1, 5, 1);
            r.broker.pass(1);
            r.sends(7, heard("w"));
            r.session(1, 5, 0);
        }
    }

    private static void willOfTheLongestDelay() {
        Check.about("A will comes DELAY seconds later");
        Rig r = withSeer();
        r.enter(0, will("x", Rig.NEVER, Rig.NEVER, "w"));
        r.enter(1, will("y", Rig.NEVER, 2147483648L, "w"));
        r.broker.lose(0);
        r.broker.lose(1);
        for (int i = 0; i < 100; i++) {
            r.broker.pass(4000);
        }
        r.session(1, 5, 1);
        r.session(2, 5, 1);
        r.told(4, 0);
    }

    private static void willWhenTheSessionEndsBefore() {
        Check.about("when the session ENDS before, then");
        Rig r = withSeer();
        r.enter(0, will("x", 3, 4, "w"));
        r.broker.lose(0);
        r.broker.pass(2);
        r.sends(7);
        Check.same("ended", 1, r.broker.pass(1));
        r.sends(7, heard("w"));
        r.broker.pass(9);
        r.sends(7);
        // At once with EXPIRY 0, by CLEAN, and by a DISCONNECT that makes EXPIRY 0.
        r.enter(0, will("x", 0, 4, "w"));
        r.broker.lose(0);
        r.sends(7, heard("w"));
        r.enter(0, will("x", 9, 4, "w"));
        r.broker.lose(0);
        r.enter(0, Rig.connect("x", 2, 0, NONE));
        r.sends(7, heard("w"));
        r.broker.lose(0);
        r.enter(0, will("x", 9, 4, "w"));
        r.feed(0, Rig.packet(224, 4, Rig.properties(17, Rig.four(0))));
        r.sends(7, heard("w"));
        r.told(0, 1);
    }

    private static void willInTheSecondOfTheEnd() {
        Check.about("when the session ENDS before, then");
        Rig r = withSeer();
        r.enter(0, will("x", 3, 3, "w"));
        r.broker.lose(0);
        r.broker.pass(2);
        Check.same("ended", 1, r.broker.pass(1));
        r.sends(7, heard("w"));
        r.told(4, 1);
    }

    private static void willIsRetained() {
        Check.about("It is DISTRIBUTED (and with RETAIN it is what is RETAINED, if there is room)");
        Rig r = withSeer();
        r.feed(7, Rig.publish(1, "a", 0, "p"));
        r.feed(7, Rig.publish(1, "w", 0, "old"));
        r.feed(7, Rig.publish(1, "b", 0, "p"));
        r.broker.take(7, 99);
        r.enter(0, Rig.connect("x", 44, 0, Rig.expiry(9), Rig.properties(2, Rig.four(5)), "w", "new"));
        r.broker.pass(3);
        r.told(1, 3);
        Check.same("payload", "old", r.keptOf(1, true));
        r.broker.lose(0);
        r.sends(7, Rig.publish(3, "w", 1, Rig.properties(2, Rig.four(5)), "new"));
        Check.same("topics", "a w b", r.topics());
        Check.same("payload", "new", r.keptOf(1, true));
        Check.same("quality", 1, r.broker.retained(1, 2));
        Check.same("LIFE", 5, r.broker.retained(1, 3));
    }

    private static void willIsNotRetained() {
        Check.about("with RETAIN it is what is RETAINED");
        Rig r = withSeer();
        r.enter(0, Rig.connect("x", 4, 0, Rig.expiry(9), 0, "w", "p"));
        r.broker.lose(0);
        r.sends(7, Rig.publish(0, "w", 0, "p"));
        r.told(1, 0);
        // Nor does one without RETAIN and payload take away what is.
        r.feed(7, Rig.publish(1, "w", 0, "kept"));
        r.enter(0, Rig.connect("x", 4, 0, Rig.expiry(9), 0, "w", ""));
        r.broker.lose(0);
        r.told(1, 1);
    }

    private static void willWithoutRoom() {
        Check.about("if there is room");
        for (int quality = 0; quality < 3; quality++) {
            Rig r = withSeer();
            for (int i = 0; i < 16; i++) {
                r.feed(7, Rig.publish(1, "r" + i, 0, "p"));
            }
            r.broker.take(7, 999);
            r.enter(0, Rig.connect("x", 36 | quality << 3, 0, Rig.expiry(9), 0, "w", "p"));
            r.broker.lose(0);
            // It is DISTRIBUTED all the same.
            r.sends(7, Rig.publish(1 | quality << 1, "w", 1, "p"));
            r.told(1, 16);
            Check.same("the last", "r15", r.keptOf(15, false));
        }
    }

    private static void willWithoutPayload() {
        Check.about("with RETAIN it is what is RETAINED [..] as a PUBLISH");
        Rig r = withSeer();
        r.feed(7, Rig.publish(1, "w", 0, "p"));
        r.broker.take(7, 99);
        r.enter(0, Rig.connect("x", 36, 0, Rig.expiry(9), 0, "w", ""));
        r.broker.lose(0);
        r.sends(7, Rig.publish(1, "w", 0, ""));
        r.told(1, 0);
    }

    private static void willOfItsQuality() {
        Check.about("as a PUBLISH of its quality");
        for (int quality = 0; quality < 3; quality++) {
            Rig r = withSeer();
            r.enter(0, Rig.connect("x", 4 | quality << 3, 0, Rig.expiry(9), 0, "w", "p"));
            r.broker.lose(0);
            r.sends(7, Rig.publish(quality << 1, "w", 1, "p"));
        }
    }

    private static void willFromThatSession() {
        Check.about("from that session");
        for (int options : new int[] {1, 5}) {
            Rig r = new Rig();
            r.enter(0, Rig.connect("x", 12, 0, Rig.expiry(9), Rig.properties(24, Rig.four(1)), "w", "p"));
            r.listen(0, "w", options);
            r.broker.lose(0);
            r.broker.pass(1);
            // With NO LOCAL it does not get its own; otherwise that WAITS, for it is not ONLINE.
            r.session(0, 3, options == 1 ? 1 : 0);
            r.told(4, 1);
        }
    }

    private static void willHasNoAnswer() {
        Check.about("without an answer");
        Rig r = new Rig();
        r.enter(0, Rig.connect("x", 20, 0, Rig.expiry(9), 0, "w", "p"));
        r.enter(1, "y", 9);
        int sent = r.broker.told(3);
        r.broker.lose(0);
        r.told(4, 1);
        r.told(3, sent);
        r.session(0, 4, 0);
        r.sends(0);
        r.sends(1);
    }

    private static void willOnce() {
        Check.about("A will comes");
        Rig r = withSeer();
        r.enter(0, will("x", 5, 2, "w"));
        r.broker.lose(0);
        r.broker.pass(2);
        r.sends(7, heard("w"));
        Check.same("ended", 1, r.broker.pass(3));
        r.sends(7);
        r.told(4, 1);
    }

    private static void expiryOfNone() {
        Check.about("A session with EXPIRY 0 ENDS at once");
        Rig r = new Rig();
        r.enter(0, "x", 0);
        r.enter(1, "y", 1);
        r.broker.lose(0);
        r.broker.lose(1);
        Check.yes("ended", !r.broker.isSession(0));
        Check.yes("there", r.broker.isSession(1));
        r.told(0, 1);
        // It is no session that ENDED in the seconds that pass.
        Check.same("ended", 0, r.broker.pass(0));
    }

    private static void expiryOfNoneBehindTheWill() {
        Check.about("A session with EXPIRY 0 ENDS at once (behind that)");
        // As its will comes x is still there, and so it is the first of those that share: y gets nothing.
        for (int delay = 0; delay < 2; delay++) {
            Rig r = withSeer();
            r.enter(0, will("x", 0, delay, "w"));
            r.listen(0, "$share/g/w", 0);
            r.enter(1, "y", 9);
            r.listen(1, "$share/g/w", 1);
            r.broker.lose(1);
            r.broker.lose(0);
            r.sends(7, heard("w"));
            Check.same("got", 0, r.broker.subscription(2, 0, 3));
            r.told(0, 2);
        }
    }

    private static void expiryOfNever() {
        Check.about("one with 4294967295 never");
        Rig r = new Rig();
        r.enter(0, "x", Rig.NEVER);
        r.enter(1, "y", 399999);
        r.broker.lose(0);
        r.broker.lose(1);
        int ended = 0;
        for (int i = 0; i < 100; i++) {
            ended += r.broker.pass(4000);
        }
        Check.same("ended", 1, ended);
        Check.yes("there", r.broker.isSession(0));
        Check.same("EXPIRY", Rig.NEVER, r.broker.expiry(0));
    }

    private static void expiryOfSeconds() {
        Check.about("others so many seconds later");
        for (int expiry : new int[] {1, 2, 60, 4000, 4001}) {
            Rig r = new Rig();
            r.enter(0, "x", expiry);
            r.broker.pass(9);
            r.broker.lose(0);
            Check.same("ended", 0, r.broker.pass(expiry - 1));
            Check.yes("there", r.broker.isSession(0));
            Check.same("ended", 1, r.broker.pass(1));
            Check.yes("not there", !r.broker.isSession(0));
            Check.same("ended", 0, r.broker.pass(9));
        }
        // Who comes back in time begins anew.
        Rig r = new Rig();
        r.enter(0, "x", 5);
        r.broker.lose(0);
        r.broker.pass(4);
        r.enter(0, "x", 5);
        r.broker.lose(0);
        Check.same("ended", 0, r.broker.pass(4));
        Check.same("ended", 1, r.broker.pass(1));
    }

    private static void onlineOnesDoNotEnd() {
        Check.about("A session with EXPIRY 0 ENDS at once [..], others so many seconds later");
        Rig r = new Rig();
        r.enter(0, "x", 0);
        r.enter(1, "y", 3);
        Check.same("ended", 0, r.broker.pass(4000));
        r.told(0, 2);
    }

    private static void allItHasGoes() {
        Check.about("its will, if it is to come yet, comes, then all it has goes");
        Rig r = withSeer();
        r.enter(0, will("x", 2, 9, "w"));
        r.listen(0, "w", 2);
        r.feed(0, Rig.publish(4, "w", 5, ""));
        r.broker.lose(0);
        r.feed(7, Rig.publish(2, "w", 6, ""));
        r.broker.take(7, 99);
        for (int what = 1; what <= 5; what++) {
            r.session(1, what, 1);
        }
        Check.same("ended", 1, r.broker.pass(2));
        r.sends(7, heard("w"));
        Check.refuses(IndexOutOfBoundsException.class, () -> r.broker.session(1, 0));
        r.broker.open(0);
        r.feed(0, Rig.connect("x", 0, 0, NONE));
        r.sends(0, Rig.connack(false));
        for (int what = 1; what <= 5; what++) {
            r.session(1, what, 0);
        }
    }

    private static void quietForKeep() {
        Check.about("and no packet for more than one and a half KEEP seconds gets DISCONNECT with 141 and is LOST");
        int[][] lasting = {{1, 1}, {2, 3}, {3, 4}, {4, 6}, {5, 7}, {100, 150}, {2666, 3999}, {2667, 4000}};
        for (int[] pair : lasting) {
            Rig r = new Rig();
            r.broker.pass(3);
            r.enter(0, Rig.connect("x", 0, pair[0], Rig.expiry(9)));
            r.broker.pass(pair[1]);
            Check.yes("open", r.broker.isOpen(0));
            r.sends(0);
            r.broker.pass(1);
            r.closedWith(0, Rig.farewell(141));
            r.session(0, 0, -1);
        }
        // The longest one.
        Rig r = new Rig();
        r.enter(0, Rig.connect("x", 0, 65535, Rig.expiry(9)));
        for (int i = 0; i < 24; i++) {
            r.broker.pass(4000);
        }
        r.broker.pass(98302 - 96000);
        Check.yes("open", r.broker.isOpen(0));
        r.broker.pass(1);
        r.closedWith(0, Rig.farewell(141));
        // It is LOST also when there is no room for the packet.
        r.enter(0, Rig.connect("x", 0, 1, Rig.expiry(9)));
        r.fill(0, 2000);
        r.broker.pass(2);
        Check.yes("closed", !r.broker.isOpen(0));
        Check.same("size", 2000, r.broker.size(0));
    }

    private static void quietWithoutKeep() {
        Check.about("a KEEP that is not 0");
        Rig r = new Rig();
        r.enter(0, Rig.connect("x", 0, 0, NONE));
        r.broker.pass(4000);
        Check.yes("open", r.broker.isOpen(0));
        r.sends(0);
    }

    private static void quietWithoutASession() {
        Check.about("each with a session");
        Rig r = new Rig();
        r.broker.open(0);
        r.broker.pass(4000);
        Check.yes("open", r.broker.isOpen(0));
        r.sends(0);
        // The KEEP of the one that had the connection before does not count.
        r.enter(1, Rig.connect("x", 0, 1, Rig.expiry(9)));
        r.broker.lose(1);
        r.broker.open(1);
        r.broker.pass(4000);
        Check.yes("open", r.broker.isOpen(1));
    }

    private static void quietIsCountedFromTheLastPacket() {
        Check.about("no packet for more than one and a half KEEP seconds");
        Rig r = new Rig();
        r.enter(1, "y", 99);
        r.enter(0, Rig.connect("x", 0, 2, Rig.expiry(9)));
        r.listen(0, "t", 0);
        r.broker.pass(3);
        r.feed(0, 192, 0);
        r.broker.pass(3);
        Check.yes("open", r.broker.isOpen(0));
        // Half a packet is none, and what the broker sends neither.
        r.feed(0, 192);
        r.feed(1, Rig.publish(0, "t", 0, ""));
        r.broker.take(0, 99);
        r.broker.pass(1);
        r.closedWith(0, Rig.farewell(141));
    }

    private static void quietByConnections() {
        Check.about("then by connections' numbers");
        Rig r = withSeer();
        for (int c : new int[] {4, 0, 2}) {
            r.enter(c, Rig.connect("c" + c, 4, 2, Rig.expiry(9), 0, "w/" + c, "p"));
        }
        r.broker.pass(4);
        r.sends(7, heard("w/0"), heard("w/2"), heard("w/4"));
        // The one that goes first is no more there, while the others still hear of it.
        Rig q = new Rig();
        for (int c = 0; c < 2; c++) {
            q.enter(c, Rig.connect("c" + c, 4, 2, Rig.expiry(9), 0, "w/" + c, "p"));
            q.listen(c, "w/+", 0);
        }
        q.broker.pass(4);
        q.closedWith(0, Rig.farewell(141));
        q.closedWith(1, heard("w/0"), Rig.farewell(141));
    }

    private static void quietInTheMiddleOfMany() {
        Check.about("So many seconds pass, one by one");
        for (int c = 0; c < 7; c++) {
            // Quiet in second 4: its will comes in 6, and its session ENDS in 9.
            Rig r = withSeer();
            int[] properties = Rig.properties(24, Rig.four(2), 2, Rig.four(30));
            r.enter(c, Rig.connect("x", 36, 2, Rig.expiry(5), properties, "w", "p"));
            Check.same("ended", 1, r.broker.pass(24));
            Check.yes("closed", !r.broker.isOpen(c));
            r.sends(7, Rig.publish(1, "w", 0, Rig.properties(2, Rig.four(30)), "p"));
            Check.same("LIFE", 12, r.broker.retained(0, 3));
            r.told(6, 24);
        }
        // In one second after another something may come.
        Rig r = new Rig();
        for (int c = 0; c < 4; c++) {
            int[] properties = Rig.properties(24, Rig.four(9), 2, Rig.four(50));
            r.enter(c, Rig.connect("c" + c, 36, 0, Rig.expiry(c + 1), properties, "w/" + c, "p"));
            r.broker.lose(c);
        }
        Check.same("ended", 4, r.broker.pass(10));
        for (int i = 0; i < 4; i++) {
            Check.same("LIFE", 41 + i, r.broker.retained(i, 3));
        }
    }

    private static void willsByNumbers() {
        Check.about("then by sessions' numbers wills come whose time it is");
        Rig r = withSeer();
        for (int c : new int[] {2, 0, 1}) {
            r.enter(c, will("c" + c, 99, 5 - c, "w/" + c));
        }
        r.broker.lose(0);
        r.broker.pass(1);
        r.broker.lose(1);
        r.broker.pass(1);
        r.broker.lose(2);
        r.broker.pass(3);
        // Sessions 1, 2, 3 are those of c2, c0, c1.
        r.sends(7, heard("w/2"), heard("w/0"), heard("w/1"));
    }

    private static void willsBeforeEnds() {
        Check.about("then sessions END");
        Rig r = withSeer();
        r.enter(0, will("ends", 3, 9, "w/ends"));
        r.enter(1, will("wills", 9, 3, "w/wills"));
        r.broker.lose(0);
        r.broker.lose(1);
        Check.same("ended", 1, r.broker.pass(3));
        r.sends(7, heard("w/wills"), heard("w/ends"));
        // Those that are quiet go before both.
        Rig q = withSeer();
        q.enter(0, will("wills", 9, 4, "w/wills"));
        q.enter(6, Rig.connect("quiet", 4, 2, Rig.expiry(9), 0, "w/quiet", "p"));
        q.broker.lose(0);
        q.broker.pass(4);
        q.sends(7, heard("w/quiet"), heard("w/wills"));
    }

    private static void endsByNumbers() {
        Check.about("by sessions' numbers [..]; then sessions END");
        Rig r = withSeer();
        for (int c : new int[] {2, 0, 1}) {
            r.enter(c, will("c" + c, 3, 9, "w/" + c));
        }
        r.broker.lose(1);
        r.broker.lose(0);
        r.broker.lose(2);
        Check.same("ended", 3, r.broker.pass(3));
        r.sends(7, heard("w/2"), heard("w/0"), heard("w/1"));
    }

    private static void endsInTheMiddleOfMany() {
        Check.about("So many seconds pass, one by one: how many sessions have ENDED in them");
        // Session 0 ENDS in second 2: what its will leaves in session 1 has LIFE from then.
        Rig r = new Rig();
        r.enter(0, Rig.connect("x", 44, 0, Rig.expiry(2), Rig.properties(24, Rig.four(9), 2, Rig.four(50)), "w", "p"));
        r.enter(1, "y", 999);
        r.listen(1, "w", 0);
        r.broker.lose(0);
        Check.same("ended", 1, r.broker.pass(30));
        r.sends(1, Rig.publish(0, "w", 0, Rig.properties(2, Rig.four(50)), "p"));
        Check.same("LIFE", 22, r.broker.retained(0, 3));
        // And a will of session 0 by its DELAY.
        Rig q = new Rig();
        q.enter(0, Rig.connect("x", 44, 0, Rig.expiry(99), Rig.properties(24, Rig.four(2), 2, Rig.four(50)), "w", "p"));
        q.broker.lose(0);
        Check.same("ended", 0, q.broker.pass(30));
        Check.same("LIFE", 22, q.broker.retained(0, 3));
        // By EXPIRY 0 and being quiet, too.
        Rig p = new Rig();
        p.enter(0, Rig.connect("x", 0, 2, NONE));
        p.enter(1, Rig.connect("y", 0, 2, Rig.expiry(3)));
        p.enter(2, "z", 9);
        Check.same("ended", 2, p.broker.pass(10));
        p.told(0, 1);
    }

    private static void aCallThatThrowsChangesNothing() {
        Check.about("A call that throws changes nothing.");
        Rig r = withSeer();
        r.enter(0, Rig.connect("x", 4, 2, Rig.expiry(9), 0, "w", "p"));
        r.feed(7, Rig.publish(1, "r", 0, Rig.properties(2, Rig.four(3)), "p"));
        r.feed(0, 192);
        String before = looks(r);
        Check.refuses(IllegalStateException.class, () -> r.broker.open(0));
        Check.refuses(IndexOutOfBoundsException.class, () -> r.broker.open(8));
        Check.refuses(IllegalArgumentException.class, () -> r.broker.feed(0, 0, 0, 0));
        Check.refuses(IllegalArgumentException.class, () -> r.broker.feed(0, 0, 0, 17));
        Check.refuses(IllegalStateException.class, () -> r.broker.feed(1, 0, 0, 1));
        Check.refuses(IndexOutOfBoundsException.class, () -> r.broker.feed(-1, 0, 0, 1));
        Check.refuses(IllegalStateException.class, () -> r.broker.lose(1));
        Check.refuses(IndexOutOfBoundsException.class, () -> r.broker.lose(8));
        Check.refuses(IllegalArgumentException.class, () -> r.broker.take(7, -1));
        Check.refuses(IndexOutOfBoundsException.class, () -> r.broker.take(8, 1));
        Check.refuses(IllegalArgumentException.class, () -> r.broker.pass(-1));
        Check.refuses(IllegalArgumentException.class, () -> r.broker.pass(4001));
        Check.same("all that there is", before, looks(r));
    }

    private static String looks(Rig r) {
        StringBuilder text = new StringBuilder(r.topics());
        for (int what = 0; what < 8; what++) {
            text.append(' ').append(r.broker.told(what));
        }
        for (int c = 0; c < 8; c++) {
            text.append(' ').append(r.broker.isOpen(c)).append(r.broker.size(c)).append('/').append(r.broker.pending(c));
            for (int i = 0; i < r.broker.size(c); i++) {
                text.append(',').append(r.broker.out(c, i));
            }
        }
        for (int s = 0; s < 2; s++) {
            for (int what = 0; what < 9; what++) {
                text.append(' ').append(r.broker.session(s, what));
            }
        }
        return text.append(r.broker.retained(0, 3)).toString();
    }
}
