/** Promises 4 and 10, part 8 of the terms: LOST, ENDS, TIME. */
public final class TimeTest {
    private static final int[] NONE = Rig.properties();

    public static void main(String[] args) {
        wrongSeconds();
        timeGoesOn();
        sessionsEnd();
        sessionsThatNeverEnd();
        endsByNumbers();
        keepAlive();
        keepCountsPackets();
        keepWithoutSession();
        keepEndsSessions();
        willAtOnce();
        willLater();
        willAtTheEnd();
        willBeforeTheEndInTheSameSecond();
        willIsRetained();
        willOfEachQuality();
        willWithLife();
        willToItself();
        willsByNumbers();
        fullInASecond();
        manySecondsAreOneByOne();
        Check.end();
    }

    private static void wrongSeconds() {
        TopicBroker b = new TopicBroker();
        for (int n : new int[] {-1, 4001, Integer.MIN_VALUE, Integer.MAX_VALUE}) {
            Check.refuses(IllegalArgumentException.class, () -> b.pass(n));
        }
        Check.same("time", 0, b.told(6));
    }

    private static void timeGoesOn() {
        TopicBroker b = new TopicBroker();
        Check.same("ended", 0, b.pass(0));
        Check.same("time", 0, b.told(6));
        Check.same("ended", 0, b.pass(4000));
        Check.same("ended", 0, b.pass(1));
        Check.same("time", 4001, b.told(6));
    }

    private static void sessionsEnd() {
        Rig r = new Rig();
        r.enter(0, "zero", 0);
        r.enter(1, "one", 1);
        r.enter(2, "ten", 10);
        Check.same("ONLINE ones stay", 0, r.broker.pass(100));
        r.broker.lose(0);
        Check.yes("0 ended at once", !r.broker.isSession(0));
        r.broker.lose(1);
        r.broker.lose(2);
        r.told(0, 2);
        Check.same("ended", 1, r.broker.pass(1));
        Check.yes("1 ended", !r.broker.isSession(1));
        Check.same("ended", 0, r.broker.pass(8));
        Check.yes("2 is there", r.broker.isSession(2));
        Check.same("ended", 1, r.broker.pass(1));
        r.told(0, 0);
        Check.same("ended", 0, r.broker.pass(1));
        r.broker.open(3);
        r.feed(3, Rig.connect("ten", 0, 0, NONE));
        r.sends(3, Rig.connack(false));
    }

    private static void sessionsThatNeverEnd() {
        Rig r = new Rig();
        r.enter(0, "x", Rig.NEVER);
        r.enter(1, "y", Rig.NEVER - 1);
        r.enter(2, "z", 100000);
        r.broker.lose(0);
        r.broker.lose(1);
        r.broker.lose(2);
        for (int i = 0; i < 24; i++) {
            Check.same("ended", 0, r.broker.pass(4000));
        }
        Check.same("ended", 0, r.broker.pass(3999));
        Check.same("ended", 1, r.broker.pass(1));
        r.told(0, 2);
    }

    private static void endsByNumbers() {
        Rig r = new Rig();
        r.enter(7, "seer", 99);
        r.listen(7, "#", 0);
        int[] delay = Rig.properties(24, Rig.four(50));
        for (int c = 0; c < 3; c++) {
            r.enter(c, Rig.connect("c" + c, 4, 0, Rig.expiry(3), delay, "w/" + c, ""));
        }
        r.broker.lose(2);
        r.broker.lose(0);
        r.broker.lose(1);
        Check.same("ended", 3, r.broker.pass(3));
        r.sends(7, Rig.publish(0, "w/0", 0, ""), Rig.publish(0, "w/1", 0, ""), Rig.publish(0, "w/2", 0, ""));
    }

    private static void keepAlive() {
        int[][] lasting = {{1, 1}, {2, 3}, {3, 4}, {10, 15}, {11, 16}, {65535, 98302}};
        for (int[] pair : lasting) {
            Rig r = new Rig();
            r.enter(0, Rig.connect("x", 0, pair[0], Rig.expiry(9)));
            int left = pair[1];
            while (left > 0) {
                r.broker.pass(Math.min(4000, left));
                left -= Math.min(4000, left);
            }
            Check.yes("open", r.broker.isOpen(0));
            Check.same("ended", 0, r.broker.pass(1));
            r.closedWith(0, Rig.farewell(141));
            r.session(0, 0, -1);
        }
        Rig r = new Rig();
        r.enter(0, Rig.connect("x", 0, 0, NONE));
        r.broker.pass(4000);
        Check.yes("without KEEP it stays", r.broker.isOpen(0));
    }

    private static void keepCountsPackets() {
        Rig r = new Rig();
        r.enter(0, Rig.connect("x", 0, 4, Rig.expiry(9)));
        r.enter(1, "pub", 99);
        r.listen(0, "t", 0);
        for (int i = 0; i < 5; i++) {
            r.broker.pass(6);
            r.feed(0, 192, 0);
            Check.yes("open", r.broker.isOpen(0));
        }
        // Half a packet does not count, nor does what is sent to it.
        r.broker.pass(5);
        r.feed(0, 192);
        r.feed(1, Rig.publish(0, "t", 0, "p"));
        r.broker.pass(1);
        Check.yes("open", r.broker.isOpen(0));
        r.broker.pass(1);
        Check.yes("closed", !r.broker.isOpen(0));
    }

    private static void keepWithoutSession() {
        Rig r = new Rig();
        r.broker.open(0);
        r.feed(0, 16, 20);
        r.broker.pass(4000);
        Check.yes("open", r.broker.isOpen(0));
        Check.same("pending", 2, r.broker.pending(0));
    }

    private static void keepEndsSessions() {
        Rig r = new Rig();
        r.enter(0, Rig.connect("x", 4, 2, NONE, 0, "w", "p"));
        r.enter(1, Rig.connect("y", 0, 2, Rig.expiry(3)));
        r.listen(1, "w", 1);
        Check.same("ended", 1, r.broker.pass(4));
        Check.yes("closed", !r.broker.isOpen(1));
        r.told(0, 1);
        r.told(4, 1);
        // 0 went first, while 1 was still open.
        r.sends(1, Rig.publish(0, "w", 0, "p"), Rig.farewell(141));
        Check.same("ended", 0, r.broker.pass(2));
        Check.same("ended", 1, r.broker.pass(1));
    }

    private static Rig withSeer() {
        Rig r = new Rig();
        r.enter(7, "seer", 99);
        r.listen(7, "#", 10);
        return r;
    }

    private static void willAtOnce() {
        Rig r = withSeer();
        r.enter(0, Rig.connect("x", 4, 0, Rig.expiry(9),
                Rig.properties(38, "k", "v", 9, "c", 3, "t", 8, "r", 1, 1), "w", "p\u0000"));
        r.session(1, 5, 1);
        r.broker.lose(0);
        r.sends(7, Rig.publish(0, "w", 0,
                Rig.properties(1, 1, 3, "t", 8, "r", 9, "c", 38, "k", "v"), "p\u0000"));
        r.session(1, 5, 0);
        r.told(4, 1);
        r.broker.pass(50);
        r.sends(7);
        r.told(4, 1);
    }

    private static void willLater() {
        Rig r = withSeer();
        r.enter(0, Rig.connect("x", 4, 0, Rig.expiry(9), Rig.properties(24, Rig.four(3)), "w", "p"));
        r.broker.pass(10);
        r.broker.lose(0);
        r.session(1, 5, 1);
        Check.same("ended", 0, r.broker.pass(2));
        r.sends(7);
        Check.same("ended", 0, r.broker.pass(1));
        r.sends(7, Rig.publish(0, "w", 0, "p"));
        r.session(1, 5, 0);
        Check.same("ended", 1, r.broker.pass(6));
    }

    private static void willAtTheEnd() {
        Rig r = withSeer();
        r.enter(0, Rig.connect("x", 4, 0, Rig.expiry(2), Rig.properties(24, Rig.four(Rig.NEVER)), "w", "p"));
        r.broker.lose(0);
        r.broker.pass(1);
        r.sends(7);
        Check.same("ended", 1, r.broker.pass(1));
        r.sends(7, Rig.publish(0, "w", 0, "p"));
        r.enter(0, Rig.connect("x", 4, 0, NONE, Rig.properties(24, Rig.four(5)), "w", "q"));
        r.broker.lose(0);
        r.sends(7, Rig.publish(0, "w", 0, "q"));
        r.told(0, 1);
    }

    private static void willBeforeTheEndInTheSameSecond() {
        // All wills whose time it is come before the first session ends, whatever the numbers are.
        Rig r = withSeer();
        r.enter(0, Rig.connect("a", 4, 0, Rig.expiry(3), Rig.properties(24, Rig.four(9)), "w/a", ""));
        r.enter(1, Rig.connect("b", 4, 0, Rig.expiry(9), Rig.properties(24, Rig.four(3)), "w/b", ""));
        r.broker.lose(0);
        r.broker.lose(1);
        Check.same("ended", 1, r.broker.pass(3));
        r.sends(7, Rig.publish(0, "w/b", 0, ""), Rig.publish(0, "w/a", 0, ""));
    }

    private static void willIsRetained() {
        Rig r = withSeer();
        r.enter(0, Rig.connect("x", 36, 0, Rig.expiry(9), 0, "w", "p"));
        r.broker.lose(0);
        r.sends(7, Rig.publish(1, "w", 0, "p"));
        Check.same("topics", "w", r.topics());
        r.enter(0, Rig.connect("x", 36, 0, Rig.expiry(9), 0, "w", ""));
        r.broker.lose(0);
        r.sends(7, Rig.publish(1, "w", 0, ""));
        r.told(1, 0);
        for (int i = 0; i < 16; i++) {
            r.feed(7, Rig.publish(1, "t" + i, 0, "p"));
        }
        r.broker.take(7, 999);
        r.enter(0, Rig.connect("x", 36, 0, Rig.expiry(9), 0, "w", "p"));
        r.broker.lose(0);
        // Without room it is distributed all the same.
        r.sends(7, Rig.publish(1, "w", 0, "p"));
        r.told(1, 16);
        Check.same("no will", "t15", r.keptOf(15, false));
        r.enter(0, Rig.connect("x", 36, 0, Rig.expiry(9), 0, "t3", "new"));
        r.broker.lose(0);
        Check.same("its place", "new", r.keptOf(3, true));
    }

    private static void willOfEachQuality() {
        for (int quality = 0; quality < 3; quality++) {
            Rig r = withSeer();
            r.enter(0, Rig.connect("x", 36 | quality << 3, 0, Rig.expiry(9), 0, "w", "p"));
            r.broker.lose(0);
            r.sends(7, Rig.publish(1 | quality << 1, "w", 1, "p"));
            r.session(0, 2, quality > 0 ? 1 : 0);
            Check.same("quality", quality, r.broker.retained(0, 2));
        }
    }

    private static void willWithLife() {
        Rig r = withSeer();
        int[] properties = Rig.properties(24, Rig.four(4), 2, Rig.four(6));
        r.enter(0, Rig.connect("x", 36, 0, Rig.expiry(99), properties, "w", "p"));
        r.broker.pass(7);
        r.broker.lose(0);
        r.broker.pass(4);
        // Its LIFE begins when it comes.
        r.sends(7, Rig.publish(1, "w", 1, Rig.properties(2, Rig.four(6)), "p"));
        Check.same("left", 6, r.broker.retained(0, 3));
        r.broker.pass(5);
        r.told(1, 1);
        r.broker.pass(1);
        r.told(1, 0);
    }

    private static void willToItself() {
        Rig r = new Rig();
        r.enter(0, Rig.connect("x", 12, 0, Rig.expiry(9), 0, "w", "p"));
        r.listen(0, "w", 1);
        r.broker.lose(0);
        r.session(0, 3, 1);
        r.broker.open(0);
        r.feed(0, Rig.connect("x", 0, 0, Rig.expiry(9)));
        r.sends(0, Rig.connack(true), Rig.publish(2, "w", 1, "p"));
    }

    private static void willsByNumbers() {
        Rig r = withSeer();
        int[] delay = Rig.properties(24, Rig.four(2));
        for (int c = 0; c < 3; c++) {
            r.enter(c, Rig.connect("c" + c, 4, 0, Rig.expiry(9), delay, "w/" + c, ""));
        }
        r.broker.lose(2);
        r.broker.lose(1);
        r.broker.lose(0);
        r.broker.pass(2);
        r.sends(7, Rig.publish(0, "w/0", 0, ""), Rig.publish(0, "w/1", 0, ""), Rig.publish(0, "w/2", 0, ""));
    }

    private static void fullInASecond() {
        Rig r = new Rig();
        r.enter(0, Rig.connect("x", 4, 0, Rig.expiry(9), Rig.properties(24, Rig.four(2)), "w", "p"));
        r.enter(1, "y", 0);
        r.listen(1, "w", 0);
        r.fill(1, 2000);
        r.broker.lose(0);
        Check.same("ended", 0, r.broker.pass(1));
        Check.same("ended", 1, r.broker.pass(1));
        Check.yes("closed", !r.broker.isOpen(1));
        Check.same("size", 2000, r.broker.size(1));
    }

    private static Rig busy() {
        Rig r = withSeer();
        for (int c = 0; c < 7; c++) {
            r.enter(c, Rig.connect("c" + c, 36, c % 3 * 5, Rig.expiry(c * 4),
                    Rig.properties(24, Rig.four(c * 3 % 7), 2, Rig.four(c * 20)), "w/" + c, "p"));
            r.listen(c, "w/" + (c + 2) % 7, 1);
            r.feed(c, Rig.publish(1, "r" + c, 0, Rig.properties(2, Rig.four(c * 3)), "p"));
        }
        for (int c = 3; c < 7; c++) {
            r.broker.lose(c);
        }
        return r;
    }

    private static String looks(Rig r) {
        StringBuilder text = new StringBuilder();
        for (int what = 0; what < 8; what++) {
            text.append(r.broker.told(what)).append(' ');
        }
        for (int c = 0; c < 8; c++) {
            text.append(r.broker.isOpen(c)).append(r.broker.size(c)).append(' ');
        }
        for (int s = 0; s < 12; s++) {
            for (int what = 0; what < 9 && r.broker.isSession(s); what++) {
                text.append(r.broker.session(s, what)).append(',');
            }
        }
        for (int i = 0; i < r.broker.told(1); i++) {
            text.append(r.broker.retained(i, 3)).append(';');
        }
        return text.toString() + r.topics();
    }

    private static void manySecondsAreOneByOne() {
        Rig r = new Rig();
        r.enter(0, Rig.connect("x", 0, 4, Rig.expiry(3)));
        r.enter(1, Rig.connect("y", 0, 4, Rig.expiry(4)));
        Check.same("ended: one is lost in second 7, and ends in 10", 1, r.broker.pass(10));
        for (int seconds = 0; seconds < 40; seconds++) {
            Rig once = busy();
            Rig singly = busy();
            int ended = 0;
            for (int i = 0; i < seconds; i++) {
                ended += singly.broker.pass(1);
            }
            Check.same("ended", ended, once.broker.pass(seconds));
            Check.same("all else", looks(singly), looks(once));
        }
    }
}
