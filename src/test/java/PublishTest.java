/** Promise 3, part 5 of the terms: PUBLISH from a client; with it promises 17 and 18. */
public final class PublishTest {
    public static void main(String[] args) {
        topics();
        aliases();
        answers();
        heldNumbers();
        tooManyHeld();
        heldOutliveTheConnection();
        retainedCome();
        retainedHaveNoRoom();
        retainedAreGone();
        retainedLooks();
        lifeOfNone();
        Check.end();
    }

    private static Rig two() {
        Rig r = new Rig();
        r.enter(0, "pub", 99);
        r.enter(1, "sub", 99);
        return r;
    }

    private static void topics() {
        String[] bad = {"+", "#", "a/+", "a/#", "a+", "#a", Rig.repeat("t", 65)};
        for (String topic : bad) {
            Rig r = two();
            r.feed(0, Rig.publish(0, topic, 0, "p"));
            r.closedWith(0, Rig.farewell(144));
            r.told(4, 0);
        }
        String[] good = {"t", "/", "//", "$share/a/b", "$", " ", Rig.repeat("t", 64), "a/b/c", "\u00c3\u00a4"};
        for (String topic : good) {
            Rig r = two();
            r.feed(0, Rig.publish(2, topic, 5, "p"));
            r.sends(0, Rig.answer(64, 5, 16));
            r.told(4, 1);
        }
    }

    private static void aliases() {
        Rig r = two();
        r.listen(1, "#", 0);
        for (int alias = 1; alias <= 4; alias++) {
            r.feed(0, Rig.publish(0, "t" + alias, 0, Rig.properties(35, Rig.two(alias)), "p"));
            r.sends(1, Rig.publish(0, "t" + alias, 0, "p"));
        }
        for (int alias = 4; alias >= 1; alias--) {
            r.feed(0, Rig.publish(0, "", 0, Rig.properties(35, Rig.two(alias)), "q"));
            r.sends(1, Rig.publish(0, "t" + alias, 0, "q"));
        }
        r.feed(0, Rig.publish(0, "new", 0, Rig.properties(35, Rig.two(2)), "p"));
        r.feed(0, Rig.publish(0, "", 0, Rig.properties(35, Rig.two(2)), "q"));
        r.sends(1, Rig.publish(0, "new", 0, "p"), Rig.publish(0, "new", 0, "q"));
        // They are the connection's, and go with it.
        r.feed(1, Rig.publish(0, "", 0, Rig.properties(35, Rig.two(2)), "q"));
        r.closedWith(1, Rig.farewell(130));
        r.broker.lose(0);
        r.enter(0, "pub", 99);
        r.feed(0, Rig.publish(0, "", 0, Rig.properties(35, Rig.two(4)), "q"));
        r.closedWith(0, Rig.farewell(130));
        for (int alias : new int[] {0, 5, 65535}) {
            r.enter(0, "pub", 99);
            r.feed(0, Rig.publish(0, "t", 0, Rig.properties(35, Rig.two(alias)), "q"));
            r.closedWith(0, Rig.farewell(148));
        }
        r.enter(0, "pub", 99);
        r.feed(0, Rig.publish(0, "t", 0, "q"));
        r.feed(0, Rig.publish(0, "", 0, "q"));
        r.closedWith(0, Rig.farewell(130));
        aliasOfWhatIsHeld();
    }

    private static void aliasOfWhatIsHeld() {
        Rig r = two();
        r.listen(1, "#", 0);
        r.feed(0, Rig.publish(4, "a", 9, "p"));
        r.feed(0, Rig.publish(4, "b", 9, Rig.properties(35, Rig.two(1)), "p"));
        r.feed(0, Rig.publish(0, "", 0, Rig.properties(35, Rig.two(1)), "q"));
        r.sends(1, Rig.publish(0, "a", 0, "p"), Rig.publish(0, "b", 0, "q"));
    }

    private static void answers() {
        Rig r = two();
        r.listen(1, "t", 0);
        r.feed(0, Rig.publish(0, "t", 0, "p"));
        r.sends(0);
        r.feed(0, Rig.publish(2, "t", 65535, "p"));
        r.sends(0, Rig.answer(64, 65535));
        r.feed(0, Rig.publish(4, "t", 256, "p"));
        r.sends(0, Rig.answer(80, 256));
        r.feed(0, Rig.publish(0, "none", 0, "p"));
        r.sends(0);
        r.feed(0, Rig.publish(2, "none", 3, "p"));
        r.sends(0, Rig.answer(64, 3, 16));
        r.feed(0, Rig.publish(4, "none", 4, "p"));
        r.sends(0, Rig.answer(80, 4, 16));
        r.session(0, 4, 2);
        r.told(4, 6);
        // To get is to be handed it, though the client is away and quality 0 is not kept for it.
        r.broker.lose(1);
        r.feed(0, Rig.publish(2, "t", 5, "p"));
        r.sends(0, Rig.answer(64, 5));
        r.session(1, 3, 0);
        r.told(5, 0);
    }

    private static void heldNumbers() {
        Rig r = two();
        r.listen(1, "t", 0);
        r.feed(0, Rig.publish(4, "t", 7, "a"));
        r.feed(0, Rig.publish(12, "t", 7, "b"));
        r.feed(0, Rig.publish(4, "none", 7, "c"));
        r.sends(0, Rig.answer(80, 7), Rig.answer(80, 7), Rig.answer(80, 7));
        r.sends(1, Rig.publish(0, "t", 0, "a"));
        r.session(0, 4, 1);
        r.told(4, 1);
        r.feed(0, Rig.answer(98, 8));
        r.feed(0, Rig.answer(98, 7));
        r.feed(0, Rig.answer(98, 7));
        r.sends(0, Rig.answer(112, 8, 146), Rig.answer(112, 7), Rig.answer(112, 7, 146));
        r.session(0, 4, 0);
        r.feed(0, Rig.publish(12, "t", 7, "d"));
        r.sends(1, Rig.publish(0, "t", 0, "d"));
        // A number of quality 1 has nothing to do with those that are HELD.
        r.feed(0, Rig.publish(2, "t", 7, "e"));
        r.sends(1, Rig.publish(0, "t", 0, "e"));
    }

    private static void tooManyHeld() {
        Rig r = two();
        for (int n = 1; n <= 8; n++) {
            r.feed(0, Rig.publish(4, "t", n, "p"));
        }
        r.session(0, 4, 8);
        r.broker.take(0, 999);
        r.feed(0, Rig.publish(4, "t", 8, "p"));
        r.sends(0, Rig.answer(80, 8));
        r.feed(0, Rig.publish(2, "t", 9, "p"));
        r.sends(0, Rig.answer(64, 9, 16));
        r.feed(0, Rig.publish(5, "t", 9, "p"));
        r.closedWith(0, Rig.farewell(147));
        r.session(0, 4, 8);
        r.told(1, 0);
        r.told(4, 9);
        r.enter(0, "pub", 99);
        r.feed(0, Rig.answer(98, 3));
        r.feed(0, Rig.publish(4, "t", 9, "p"));
        r.sends(0, Rig.answer(112, 3), Rig.answer(80, 9, 16));
        for (int n : new int[] {1, 2, 4, 5, 6, 7, 8, 9}) {
            r.feed(0, Rig.answer(98, n));
            r.sends(0, Rig.answer(112, n));
        }
        r.session(0, 4, 0);
    }

    private static void heldOutliveTheConnection() {
        Rig r = two();
        r.feed(0, Rig.publish(4, "t", 7, "p"));
        r.broker.lose(0);
        r.enter(0, "pub", 99);
        r.feed(0, Rig.publish(12, "t", 7, "p"));
        r.sends(0, Rig.answer(80, 7));
        r.told(4, 1);
    }

    private static void retainedCome() {
        Rig r = two();
        r.feed(0, Rig.publish(1, "a", 0, "one"));
        r.feed(0, Rig.publish(3, "b", 1, "two"));
        r.feed(0, Rig.publish(5, "c", 1, "three"));
        r.feed(0, Rig.publish(0, "d", 0, "not"));
        Check.same("topics", "a b c", r.topics());
        r.feed(0, Rig.publish(5, "a", 2, "four"));
        Check.same("in its place", "a b c", r.topics());
        Check.same("payload", "four", r.keptOf(0, true));
        Check.same("quality", 2, r.broker.retained(0, 2));
        // An empty one without RETAIN takes nothing away.
        r.feed(0, Rig.publish(0, "a", 0, ""));
        r.told(1, 3);
        r.feed(0, Rig.publish(1, "a", 0, ""));
        r.feed(0, Rig.publish(1, "x", 0, ""));
        Check.same("topics", "b c", r.topics());
        r.feed(0, Rig.publish(1, "a", 0, "five"));
        Check.same("behind all", "b c a", r.topics());
        r.told(4, 9);
    }

    private static void retainedHaveNoRoom() {
        Rig r = two();
        r.listen(1, "#", 0);
        for (int i = 0; i < 16; i++) {
            r.feed(0, Rig.publish(1, "t" + i, 0, "p"));
        }
        r.told(1, 16);
        r.broker.take(1, 999);
        r.feed(0, Rig.publish(1, "t16", 0, "p"));
        r.sends(0);
        r.feed(0, Rig.publish(3, "t16", 4, "p"));
        r.sends(0, Rig.answer(64, 4, 151));
        r.feed(0, Rig.publish(5, "t16", 4, "p"));
        r.sends(0, Rig.answer(80, 4, 151));
        r.sends(1);
        r.session(0, 4, 0);
        r.told(4, 16);
        r.feed(0, Rig.publish(5, "t15", 4, "q"));
        r.sends(0, Rig.answer(80, 4));
        r.sends(1, Rig.publish(0, "t15", 0, "q"));
        r.feed(0, Rig.publish(3, "t16", 4, ""));
        r.sends(0, Rig.answer(64, 4));
        r.sends(1, Rig.publish(0, "t16", 0, ""));
        r.feed(0, Rig.publish(1, "t3", 0, ""));
        r.feed(0, Rig.publish(3, "t16", 4, "p"));
        r.sends(0, Rig.answer(64, 4));
        r.told(1, 16);
        Check.same("the last", "t16", r.keptOf(15, false));
    }

    private static void retainedAreGone() {
        Rig r = two();
        r.feed(0, Rig.publish(1, "a", 0, Rig.properties(2, Rig.four(3)), "p"));
        r.feed(0, Rig.publish(1, "b", 0, "p"));
        r.feed(0, Rig.publish(1, "c", 0, Rig.properties(2, Rig.four(2)), "p"));
        Check.same("left", 3, r.broker.retained(0, 3));
        Check.same("left", -1, r.broker.retained(1, 3));
        r.broker.pass(1);
        Check.same("left", 2, r.broker.retained(0, 3));
        Check.same("left", 1, r.broker.retained(2, 3));
        r.broker.pass(1);
        Check.same("topics", "a b", r.topics());
        Check.same("left", 1, r.broker.retained(0, 3));
        r.broker.pass(1);
        Check.same("topics", "b", r.topics());
        r.feed(0, Rig.publish(1, "a", 0, "q"));
        Check.same("topics", "b a", r.topics());
        // One that is gone at once takes the place, and goes.
        r.feed(0, Rig.publish(1, "b", 0, Rig.properties(2, Rig.four(0)), "q"));
        Check.same("topics", "a", r.topics());
        r.feed(0, Rig.publish(1, "z", 0, Rig.properties(2, Rig.four(Rig.NEVER)), "q"));
        Check.same("left", Integer.MAX_VALUE, r.broker.retained(1, 3));
        r.feed(0, Rig.publish(1, "z", 0, Rig.properties(2, Rig.four(2147483648L)), "q"));
        Check.same("left", Integer.MAX_VALUE, r.broker.retained(1, 3));
        r.broker.pass(2);
        Check.same("left", 2147483646, r.broker.retained(1, 3));
    }

    private static void retainedLooks() {
        Rig r = two();
        r.feed(0, Rig.publish(3, "topic", 1, "pay\u0000\u00ff"));
        Check.same("topic", "topic", r.keptOf(0, false));
        Check.same("payload", "pay\u0000\u00ff", r.keptOf(0, true));
        Check.same("bytes", 5, r.broker.retained(0, 0));
        Check.same("bytes", 5, r.broker.retained(0, 1));
        Check.same("quality", 1, r.broker.retained(0, 2));
        int[] wrong = {-1, 5, Integer.MIN_VALUE, Integer.MAX_VALUE};
        for (int k : wrong) {
            Check.same("no byte", -1, r.broker.kept(0, false, k));
            Check.same("no byte", -1, r.broker.kept(0, true, k));
            Check.same("no message", -1, r.broker.kept(k, true, 0));
        }
        for (int i : new int[] {-1, 1, 16, Integer.MIN_VALUE, Integer.MAX_VALUE}) {
            for (int what = 0; what < 4; what++) {
                Check.same("no message", -1, r.broker.retained(i, what));
            }
        }
        for (int what : new int[] {-1, 4, Integer.MIN_VALUE, Integer.MAX_VALUE}) {
            Check.refuses(IllegalArgumentException.class, () -> r.broker.retained(0, what));
            Check.refuses(IllegalArgumentException.class, () -> r.broker.retained(9, what));
        }
    }

    private static void lifeOfNone() {
        Rig r = two();
        r.listen(1, "t", 1);
        r.feed(0, Rig.publish(2, "t", 3, Rig.properties(2, Rig.four(0)), "p"));
        r.sends(0, Rig.answer(64, 3));
        r.sends(1);
        r.session(1, 2, 0);
        r.session(1, 3, 0);
        Check.same("got", 1, r.broker.subscription(1, 0, 3));
        r.told(5, 0);
    }
}
