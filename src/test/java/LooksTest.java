/** Promises 11 to 16 and 19: what there is of sessions and subscriptions, and what is counted. */
public final class LooksTest {
    private static final Class<IndexOutOfBoundsException> NO_SUCH = IndexOutOfBoundsException.class;
    private static final Class<IllegalArgumentException> BAD = IllegalArgumentException.class;
    private static final int[] FAR = {Integer.MIN_VALUE, -1, 12, 13, Integer.MAX_VALUE};

    public static void main(String[] args) {
        isSession();
        session();
        expiry();
        id();
        subscription();
        filter();
        told();
        theOrderOfExceptions();
        whatThrowsChangesNothing();
        Check.end();
    }

    private static void isSession() {
        Rig r = new Rig();
        r.enter(0, "a", 9);
        r.enter(1, "b", 9);
        Check.yes("0", r.broker.isSession(0));
        Check.yes("1", r.broker.isSession(1));
        Check.yes("not 2", !r.broker.isSession(2));
        for (int s : FAR) {
            Check.yes("not " + s, !r.broker.isSession(s));
        }
    }

    private static void session() {
        Rig r = new Rig();
        int[] properties = Rig.properties(17, Rig.four(99), 33, Rig.two(2));
        r.enter(6, Rig.connect("client", 4, 300, properties, Rig.properties(24, Rig.four(1)), "w", ""));
        r.feed(6, Rig.subscribe(1, "a", 2, "b", 1, "c", 0));
        for (int n = 1; n <= 3; n++) {
            r.feed(6, Rig.publish(4, "none", n, ""));
        }
        for (int n = 1; n <= 6; n++) {
            r.feed(6, Rig.publish(2, "a", n, ""));
        }
        int[] due = {6, 3, 2, 4, 3, 1, 6, 300, 2};
        for (int what = 0; what < due.length; what++) {
            r.session(0, what, due[what]);
        }
        r.broker.lose(6);
        r.session(0, 0, -1);
        r.session(0, 5, 1);
        r.broker.pass(1);
        r.session(0, 5, 0);
        r.session(0, 7, 300);
        for (int what : new int[] {-1, 9, Integer.MIN_VALUE, Integer.MAX_VALUE}) {
            Check.refuses(BAD, () -> r.broker.session(0, what));
        }
        for (int s : FAR) {
            Check.refuses(NO_SUCH, () -> r.broker.session(s, 0));
        }
        Check.refuses(NO_SUCH, () -> r.broker.session(1, 0));
    }

    private static void expiry() {
        Rig r = new Rig();
        long[] due = {0, 1, 70000, 2147483648L, Rig.NEVER};
        for (int s = 0; s < due.length; s++) {
            r.enter(s, "c" + s, due[s]);
            Check.same("expiry", due[s], r.broker.expiry(s));
        }
        Check.refuses(NO_SUCH, () -> r.broker.expiry(5));
        for (int s : FAR) {
            Check.refuses(NO_SUCH, () -> r.broker.expiry(s));
        }
    }

    private static void id() {
        Rig r = new Rig();
        r.enter(0, "\u00c3\u00a4z", 9);
        Check.same("byte", 195, r.broker.id(0, 0));
        Check.same("byte", 164, r.broker.id(0, 1));
        Check.same("byte", 'z', r.broker.id(0, 2));
        for (int i : new int[] {-1, 3, Integer.MIN_VALUE, Integer.MAX_VALUE}) {
            Check.same("none", -1, r.broker.id(0, i));
        }
        Check.refuses(NO_SUCH, () -> r.broker.id(1, 0));
        for (int s : FAR) {
            Check.refuses(NO_SUCH, () -> r.broker.id(s, 0));
        }
    }

    private static void subscription() {
        Rig r = new Rig();
        r.enter(0, "a", 9);
        r.feed(0, Rig.publish(1, "a/b", 0, "p"));
        r.feed(0, Rig.packet(130, Rig.two(1), Rig.properties(11, 255, 255, 255, 127), "a/+", 42));
        r.feed(0, Rig.subscribe(1, "$share/n/a/b", 17, "#", 0));
        r.feed(0, Rig.publish(0, "a/b", 0, "p"));
        int[][] due = {{42, 268435455, 3, 1}, {17, 0, 12, 1}, {0, 0, 1, 2}};
        for (int k = 0; k < due.length; k++) {
            for (int what = 0; what < 4; what++) {
                Check.same("subscription " + k + " " + what, due[k][what], r.broker.subscription(0, k, what));
            }
        }
        for (int k : new int[] {-1, 3, 8, Integer.MIN_VALUE, Integer.MAX_VALUE}) {
            Check.refuses(NO_SUCH, () -> r.broker.subscription(0, k, 0));
        }
        for (int what : new int[] {-1, 4, Integer.MIN_VALUE, Integer.MAX_VALUE}) {
            Check.refuses(BAD, () -> r.broker.subscription(0, 0, what));
        }
        Check.refuses(NO_SUCH, () -> r.broker.subscription(1, 0, 0));
        for (int s : FAR) {
            Check.refuses(NO_SUCH, () -> r.broker.subscription(s, 0, 0));
        }
    }

    private static void filter() {
        Rig r = new Rig();
        r.enter(0, "a", 9);
        r.feed(0, Rig.subscribe(1, "x", 0, "$share/n/\u00c3\u00a4", 0));
        Check.same("told", "x", r.filterOf(0, 0));
        Check.same("told", "$share/n/\u00c3\u00a4", r.filterOf(0, 1));
        Check.same("byte", 164, r.broker.filter(0, 1, 10));
        for (int i : new int[] {-1, 11, Integer.MIN_VALUE, Integer.MAX_VALUE}) {
            Check.same("none", -1, r.broker.filter(0, 1, i));
        }
        for (int k : new int[] {-1, 2, 8, Integer.MIN_VALUE, Integer.MAX_VALUE}) {
            Check.refuses(NO_SUCH, () -> r.broker.filter(0, k, 0));
        }
        Check.refuses(NO_SUCH, () -> r.broker.filter(1, 0, 0));
        for (int s : FAR) {
            Check.refuses(NO_SUCH, () -> r.broker.filter(s, 0, 0));
        }
    }

    private static void told() {
        Rig r = new Rig();
        r.enter(0, Rig.connect("", 0, 0, Rig.properties(17, Rig.four(9), 39, Rig.four(12))));
        r.enter(1, "b", 9);
        r.feed(0, Rig.subscribe(1, "t", 0));
        r.feed(1, Rig.publish(3, "t", 1, "p"));
        r.feed(1, Rig.publish(3, "t", 1, "too long for it"));
        r.feed(1, Rig.publish(0, "none", 0, ""));
        r.broker.pass(5);
        int[] due = {2, 1, 6, 6, 3, 1, 5, 1};
        for (int what = 0; what < 8; what++) {
            r.told(what, due[what]);
        }
        for (int what : new int[] {-1, 8, Integer.MIN_VALUE, Integer.MAX_VALUE}) {
            Check.refuses(BAD, () -> r.broker.told(what));
        }
    }

    private static void theOrderOfExceptions() {
        TopicBroker b = new TopicBroker();
        Check.refuses(NO_SUCH, () -> b.session(0, 99));
        Check.refuses(NO_SUCH, () -> b.subscription(0, 0, 99));
        Check.refuses(NO_SUCH, () -> b.feed(8, 0, 0, 99));
        Check.refuses(BAD, () -> b.feed(7, 0, 0, 99));
        Check.refuses(NO_SUCH, () -> b.take(8, -1));
    }

    private static void whatThrowsChangesNothing() {
        Rig r = new Rig();
        r.enter(0, "a", 9);
        r.feed(0, 192, 0, 192);
        Check.refuses(IllegalStateException.class, () -> r.broker.open(0));
        Check.refuses(BAD, () -> r.broker.feed(0, 0, 0, 0));
        Check.refuses(BAD, () -> r.broker.take(0, -5));
        Check.refuses(BAD, () -> r.broker.pass(4001));
        Check.refuses(IllegalStateException.class, () -> r.broker.lose(1));
        Check.same("pending", 1, r.broker.pending(0));
        r.sends(0, new int[] {208, 0});
        r.told(6, 0);
        r.session(0, 0, 0);
    }
}
