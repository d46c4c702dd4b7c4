/** The edges of the promises 1 to 19: what each call answers, or throws, at the ends of what it may be given. */
public final class CallEdgesTest {
    private static final Class<IndexOutOfBoundsException> NO_SUCH = IndexOutOfBoundsException.class;
    private static final Class<IllegalArgumentException> BAD = IllegalArgumentException.class;
    private static final Class<IllegalStateException> STATE = IllegalStateException.class;
    private static final int LEAST = Integer.MIN_VALUE;
    private static final int MOST = Integer.MAX_VALUE;
    private static final int[] NO_CONNECTION = {LEAST, -1, 8, 9, MOST};
    private static final int[] NO_SESSION = {LEAST, -1, 3, 11, 12, MOST};
    private static final int[] PING = {192, 0};

    public static void main(String[] args) {
        aNewObject();
        open();
        openThatIsOpen();
        feedOfNoConnection();
        feedOfSoMany();
        feedThatIsClosed();
        feedLowestFirst();
        feedAnswers();
        lose();
        isOpen();
        size();
        out();
        take();
        takeBelowNone();
        pending();
        passOfSoMany();
        passThatIsRefused();
        passAnswers();
        isSession();
        sessionOfNone();
        sessionOfAnother();
        sessionTells();
        expiry();
        id();
        subscriptionOfNone();
        subscriptionOfAnother();
        subscriptionTells();
        filter();
        retainedOfAnother();
        retainedOfNone();
        retainedLife();
        kept();
        toldOfAnother();
        toldTells();
        Check.end();
    }

    /** Sessions 0 .. 2: "x" with two subscriptions on 0, "y" that is away, "z" without any on 2. */
    private static Rig some() {
        Rig r = new Rig();
        r.enter(0, "x", 99);
        r.feed(0, Rig.subscribe(1, "a", 1, "$share/n/b", 2));
        r.broker.take(0, 99);
        r.enter(1, "y", 99);
        r.broker.lose(1);
        r.enter(2, Rig.repeat("z", 20), 99);
        return r;
    }

    private static void aNewObject() {
        Check.about("Promise 1: No connection is open, no sessions, nothing retained; TIME is 0.");
        TopicBroker b = new TopicBroker();
        for (int c = 0; c < 8; c++) {
            Check.yes("closed", !b.isOpen(c));
            Check.same("size", 0, b.size(c));
            Check.same("out", -1, b.out(c, 0));
            Check.same("pending", 0, b.pending(c));
            Check.same("take", 0, b.take(c, 1));
        }
        for (int s = 0; s < 12; s++) {
            Check.yes("no session", !b.isSession(s));
        }
        for (int what = 0; what < 8; what++) {
            Check.same("told", 0, b.told(what));
        }
        for (int i = 0; i < 16; i++) {
            Check.same("retained", -1, b.retained(i, 0));
            Check.same("kept", -1, b.kept(i, true, 0));
        }
        // One object has nothing of another.
        some();
        Check.yes("closed", !b.isOpen(0));
        Check.same("told", 0, new TopicBroker().told(0));
    }

    private static void open() {
        Check.about("Promise 2: A connection opens; its OUT is empty. IndexOutOfBoundsException");
        TopicBroker b = new TopicBroker();
        for (int c : NO_CONNECTION) {
            Check.refuses(NO_SUCH, () -> b.open(c));
        }
        for (int c = 0; c < 8; c++) {
            b.open(c);
            Check.yes("open", b.isOpen(c));
            Check.same("size", 0, b.size(c));
        }
        Rig r = new Rig();
        r.enter(7, "x", 9);
        r.feed(7, PING);
        r.broker.lose(7);
        Check.same("size", 2, r.broker.size(7));
        r.broker.open(7);
        Check.same("size", 0, r.broker.size(7));
    }

    private static void openThatIsOpen() {
        Check.about("Promise 2: IllegalStateException: it is open.");
        Rig r = some();
        r.feed(0, PING);
        Check.refuses(STATE, () -> r.broker.open(0));
        Check.same("its OUT stays", 2, r.broker.size(0));
        r.session(0, 0, 0);
        r.broker.open(3);
        Check.refuses(STATE, () -> r.broker.open(3));
        r.broker.lose(3);
        r.broker.open(3);
        Check.yes("open", r.broker.isOpen(3));
    }

    private static void feedOfNoConnection() {
        Check.about("Promise 3: IndexOutOfBoundsException");
        TopicBroker b = new TopicBroker();
        for (int c : NO_CONNECTION) {
            Check.refuses(NO_SUCH, () -> b.feed(c, 0, 0, 1));
            // It is looked at before n.
            Check.refuses(NO_SUCH, () -> b.feed(c, 0, 0, 0));
            Check.refuses(NO_SUCH, () -> b.feed(c, 0, 0, 17));
        }
    }

    private static void feedOfSoMany() {
        Check.about("Promise 3: n (1 .. 16) in all [..] IllegalArgumentException");
        TopicBroker b = new TopicBroker();
        b.open(0);
        for (int n : new int[] {LEAST, -1, 0, 17, 18, MOST}) {
            Check.refuses(BAD, () -> b.feed(0, 0, 0, n));
            // It is looked at before whether the connection is open.
            Check.refuses(BAD, () -> b.feed(1, 0, 0, n));
        }
        Check.same("pending", 0, b.pending(0));
        for (int n = 1; n <= 16; n++) {
            TopicBroker other = new TopicBroker();
            other.open(0);
            // The first byte of a packet of 127 bytes, and what follows.
            Check.same("taken", 0, other.feed(0, 0x0101010101017F30L, 0x0101010101010101L, n));
            Check.same("pending", n, other.pending(0));
        }
    }

    private static void feedThatIsClosed() {
        Check.about("Promise 3: IllegalStateException: it is closed.");
        Rig r = some();
        Check.refuses(STATE, () -> r.broker.feed(7, 0, 0, 1));
        Check.refuses(STATE, () -> r.broker.feed(1, 0, 0, 16));
        r.feed(0, 224, 0);
        Check.refuses(STATE, () -> r.broker.feed(0, 192, 0, 2));
        Check.same("pending", 0, r.broker.pending(7));
    }

    private static void feedLowestFirst() {
        Check.about("Promise 3: Bytes come from a client: those of a, the lowest first, then those of b, n (1 .. 16) in all");
        TopicBroker b = new TopicBroker();
        b.open(0);
        // 16 14 0 4 M Q T T, then 5 2 1 3 0 0 1 255 would be the end of a CONNECT; 255 is no UTF-8.
        b.feed(0, 0x5454514D04000E10L, 0xFF01000003010205L, 15);
        Check.same("pending", 15, b.pending(0));
        Check.same("the rest does not come", 1, b.feed(0, 0x7A, -1L, 1));
        Check.same("id", 'z', b.id(0, 0));
        Check.same("KEEP", 259, b.session(0, 7));
        b.take(0, 99);
        // Bytes of 128 and more, up to the highest of both.
        Check.same("taken", 8, b.feed(0, 0x00C000C000C000C0L, 0x00C000C000C000C0L, 16));
        Check.same("eight are of a alone", 4, b.feed(0, 0x00C000C000C000C0L, 0, 8));
        Check.same("the ninth is the lowest of b", 4, b.feed(0, 0x00C000C000C000C0L, 0xFFFFFFFFFFFFFFC0L, 9));
        Check.same("pending", 1, b.pending(0));
        Check.same("it was 192", 1, b.feed(0, 0, 0, 1));
        Check.yes("open", b.isOpen(0));
    }

    private static void feedAnswers() {
        Check.about("Promise 3: how many whole packets were taken");
        Rig r = some();
        Check.same("none", 0, r.feed(0, 192));
        Check.same("one", 1, r.feed(0, 0));
        Check.same("one and a half", 1, r.feed(0, 192, 0, 192));
        Check.same("the half and eight less one", 8, r.feed(0, 0, 192, 0, 192, 0, 192, 0, 192, 0, 192, 0, 192, 0, 192, 0));
        Check.same("a wrong one is taken too", 2, r.feed(0, 192, 0, 0, 0));
        Check.yes("closed", !r.broker.isOpen(0));
    }

    private static void lose() {
        Check.about("Promise 4: A connection is LOST. IndexOutOfBoundsException; IllegalStateException: it is closed.");
        Rig r = some();
        for (int c : NO_CONNECTION) {
            Check.refuses(NO_SUCH, () -> r.broker.lose(c));
        }
        Check.refuses(STATE, () -> r.broker.lose(1));
        Check.refuses(STATE, () -> r.broker.lose(7));
        r.broker.lose(0);
        Check.yes("closed", !r.broker.isOpen(0));
        r.session(0, 0, -1);
        Check.refuses(STATE, () -> r.broker.lose(0));
        r.broker.open(7);
        r.broker.lose(7);
        Check.refuses(STATE, () -> r.broker.lose(7));
    }

    private static void isOpen() {
        Check.about("Promise 5: Whether a connection is open. IndexOutOfBoundsException.");
        Rig r = some();
        for (int c : NO_CONNECTION) {
            Check.refuses(NO_SUCH, () -> r.broker.isOpen(c));
        }
        for (int c = 0; c < 8; c++) {
            Check.yes("0 and 2 are", r.broker.isOpen(c) == (c == 0 || c == 2));
        }
    }

    private static void size() {
        Check.about("Promise 6: How many bytes OUT has. IndexOutOfBoundsException.");
        Rig r = some();
        for (int c : NO_CONNECTION) {
            Check.refuses(NO_SUCH, () -> r.broker.size(c));
        }
        Check.same("none", 0, r.broker.size(0));
        r.feed(0, PING);
        Check.same("two", 2, r.broker.size(0));
        r.fill(0, 2000);
        Check.same("all", 2000, r.broker.size(0));
    }

    private static void out() {
        Check.about("Promise 7: Byte i of OUT, 0 .. 255; NONE when it has none such. IndexOutOfBoundsException.");
        Rig r = some();
        for (int c : NO_CONNECTION) {
            Check.refuses(NO_SUCH, () -> r.broker.out(c, 0));
            Check.refuses(NO_SUCH, () -> r.broker.out(c, -1));
        }
        Check.same("none", -1, r.broker.out(0, 0));
        r.listen(0, "t", 0);
        r.feed(0, Rig.publish(0, "t", 0, "\u0000\u00ff\u0080"));
        Check.same("byte", 0, r.broker.out(0, 6));
        Check.same("byte", 255, r.broker.out(0, 7));
        Check.same("the last", 128, r.broker.out(0, 8));
        for (int i : new int[] {LEAST, -1, 9, 1999, 2000, MOST}) {
            Check.same("none", TopicBroker.NONE, r.broker.out(0, i));
        }
        r.fill(0, 2000);
        Check.same("none", -1, r.broker.out(0, 2000));
        Check.same("the last", 208, r.broker.out(0, r.broker.size(0) - 2));
        r.broker.take(0, 1);
        Check.same("none", -1, r.broker.out(0, r.broker.size(0)));
    }

    private static void take() {
        Check.about("Promise 8: The first n bytes of OUT go, all if it has not so many: how many are left.");
        Rig r = some();
        Check.same("of none", 0, r.broker.take(0, 0));
        Check.same("of none", 0, r.broker.take(0, 1));
        r.feed(0, Rig.join(PING, Rig.answer(98, 7)));
        Check.same("none", 7, r.broker.take(0, 0));
        Check.same("one", 6, r.broker.take(0, 1));
        Check.same("it was the first", 0, r.broker.out(0, 0));
        Check.same("then", 112, r.broker.out(0, 1));
        Check.same("all but one", 1, r.broker.take(0, 5));
        Check.same("the last is left", 146, r.broker.out(0, 0));
        Check.same("just all", 0, r.broker.take(0, 1));
        r.feed(0, PING);
        Check.same("more than all", 0, r.broker.take(0, 3));
        r.feed(0, PING);
        Check.same("many more than all", 0, r.broker.take(0, MOST));
        Check.same("size", 0, r.broker.size(0));
    }

    private static void takeBelowNone() {
        Check.about("Promise 8: IndexOutOfBoundsException; IllegalArgumentException: n is below 0.");
        Rig r = some();
        r.feed(0, PING);
        for (int c : NO_CONNECTION) {
            Check.refuses(NO_SUCH, () -> r.broker.take(c, 0));
            Check.refuses(NO_SUCH, () -> r.broker.take(c, -1));
        }
        for (int n : new int[] {-1, -2, LEAST}) {
            Check.refuses(BAD, () -> r.broker.take(0, n));
            Check.refuses(BAD, () -> r.broker.take(7, n));
        }
        Check.same("size", 2, r.broker.size(0));
    }

    private static void pending() {
        Check.about("Promise 9: How many bytes of a packet that is not whole have come. IndexOutOfBoundsException.");
        Rig r = some();
        for (int c : NO_CONNECTION) {
            Check.refuses(NO_SUCH, () -> r.broker.pending(c));
        }
        int[] longest = Rig.join(48, 144, 131, 128, 0, "t", 0, Rig.raw(Rig.repeat("p", 396)));
        for (int i = 0; i < longest.length; i++) {
            if (i < 8 || i > 400) {
                Check.same("pending", i, r.broker.pending(0));
            }
            r.broker.feed(0, longest[i], 0, 1);
        }
        Check.same("whole", 0, r.broker.pending(0));
        Check.same("closed", 0, r.broker.pending(7));
    }

    private static void passOfSoMany() {
        Check.about("Promise 10: So many seconds pass");
        TopicBroker b = new TopicBroker();
        b.pass(0);
        Check.same("time", 0, b.told(6));
        b.pass(1);
        Check.same("time", 1, b.told(6));
        b.pass(4000);
        Check.same("time", 4001, b.told(6));
        for (int i = 0; i < 500; i++) {
            b.pass(4000);
        }
        Check.same("time", 2004001, b.told(6));
    }

    private static void passThatIsRefused() {
        Check.about("Promise 10: IllegalArgumentException: not 0 .. 4000.");
        TopicBroker b = new TopicBroker();
        for (int n : new int[] {LEAST, -1, 4001, MOST}) {
            Check.refuses(BAD, () -> b.pass(n));
        }
        Check.same("time", 0, b.told(6));
    }

    private static void passAnswers() {
        Check.about("Promise 10: how many sessions have ENDED in them");
        Rig r = some();
        Check.same("none", 0, r.broker.pass(0));
        Check.same("none", 0, r.broker.pass(98));
        Check.same("one", 1, r.broker.pass(1));
        Check.same("not again", 0, r.broker.pass(4000));
        r.broker.lose(0);
        r.broker.lose(2);
        Check.same("two", 2, r.broker.pass(4000));
        // All twelve of them.
        Rig q = new Rig();
        for (int i = 0; i < 12; i++) {
            q.enter(0, "c" + i, 1 + i * 300);
            q.broker.lose(0);
        }
        Check.same("twelve", 12, q.broker.pass(4000));
    }

    private static void isSession() {
        Check.about("Promise 11: Whether there is a session of a number.");
        Rig r = some();
        for (int s = 0; s < 3; s++) {
            Check.yes("there", r.broker.isSession(s));
        }
        for (int s : NO_SESSION) {
            Check.yes("not there", !r.broker.isSession(s));
        }
    }

    private static void sessionOfNone() {
        Check.about("Promise 12: IndexOutOfBoundsException");
        Rig r = some();
        for (int s : NO_SESSION) {
            Check.refuses(NO_SUCH, () -> r.broker.session(s, 0));
            // It is looked at before what.
            Check.refuses(NO_SUCH, () -> r.broker.session(s, 9));
        }
    }

    private static void sessionOfAnother() {
        Check.about("Promise 12: IllegalArgumentException: another what.");
        Rig r = some();
        for (int what : new int[] {LEAST, -1, 9, 10, MOST}) {
            Check.refuses(BAD, () -> r.broker.session(0, what));
        }
    }

    private static void sessionTells() {
        Check.about("Promise 12: its connection (what = 0; NONE if it is not ONLINE) [..] 1 if a will may come, else 0 (5),"
                + " bytes of its id (6), KEEP (7), MOST (8)");
        Rig r = some();
        r.session(0, 0, 0);
        r.session(1, 0, TopicBroker.NONE);
        r.session(2, 0, 2);
        r.session(0, 1, 2);
        r.session(0, 6, 1);
        r.session(2, 6, 20);
        r.session(0, 8, 65535);
        r.enter(7, Rig.connect("w", 4, 65535, Rig.properties(17, Rig.four(9), 33, Rig.two(1)),
                Rig.properties(24, Rig.four(3)), "w", ""));
        int[] due = {7, 0, 0, 0, 0, 1, 1, 65535, 1};
        for (int what = 0; what < 9; what++) {
            r.session(3, what, due[what]);
        }
        r.broker.lose(7);
        r.broker.pass(2);
        r.session(3, 5, 1);
        r.broker.pass(1);
        r.session(3, 5, 0);
    }

    private static void expiry() {
        Check.about("Promise 13: EXPIRY of a session. IndexOutOfBoundsException.");
        Rig r = some();
        for (int s : NO_SESSION) {
            Check.refuses(NO_SUCH, () -> r.broker.expiry(s));
        }
        r.enter(3, "a", 0);
        r.enter(4, "b", 2147483648L);
        r.enter(5, "c", Rig.NEVER);
        Check.same("99", 99, r.broker.expiry(1));
        Check.same("none", 0, r.broker.expiry(3));
        Check.same("more than an int", 2147483648L, r.broker.expiry(4));
        Check.same("never", 4294967295L, r.broker.expiry(5));
    }

    private static void id() {
        Check.about("Promise 14: Byte i of a session's id; NONE when it has none such. IndexOutOfBoundsException.");
        Rig r = some();
        for (int s : NO_SESSION) {
            Check.refuses(NO_SUCH, () -> r.broker.id(s, 0));
        }
        Check.same("the only one", 'x', r.broker.id(0, 0));
        Check.same("none", -1, r.broker.id(0, 1));
        Check.same("the last", 'z', r.broker.id(2, 19));
        for (int i : new int[] {LEAST, -1, 20, MOST}) {
            Check.same("none", TopicBroker.NONE, r.broker.id(2, i));
        }
        r.enter(3, "\u00f4\u008f\u00bf\u00bf", 9);
        Check.same("a high one", 244, r.broker.id(3, 0));
        Check.same("a high one", 191, r.broker.id(3, 3));
    }

    private static void subscriptionOfNone() {
        Check.about("Promise 15: IndexOutOfBoundsException");
        Rig r = some();
        for (int s : NO_SESSION) {
            Check.refuses(NO_SUCH, () -> r.broker.subscription(s, 0, 0));
        }
        for (int k : new int[] {LEAST, -1, 2, 7, 8, MOST}) {
            Check.refuses(NO_SUCH, () -> r.broker.subscription(0, k, 0));
            // It is looked at before what.
            Check.refuses(NO_SUCH, () -> r.broker.subscription(0, k, 4));
        }
        Check.refuses(NO_SUCH, () -> r.broker.subscription(1, 0, 0));
        r.feed(0, Rig.unsubscribe(1, "a"));
        Check.refuses(NO_SUCH, () -> r.broker.subscription(0, 1, 0));
        r.feed(0, Rig.subscribe(1, "c", 0, "d", 0, "e", 0, "f", 0, "g", 0, "h", 0, "i", 0));
        Check.same("the eighth", 1, r.broker.subscription(0, 7, 2));
        Check.refuses(NO_SUCH, () -> r.broker.subscription(0, 8, 0));
    }

    private static void subscriptionOfAnother() {
        Check.about("Promise 15: IllegalArgumentException: another what.");
        Rig r = some();
        for (int what : new int[] {LEAST, -1, 4, 5, MOST}) {
            Check.refuses(BAD, () -> r.broker.subscription(0, 0, what));
            Check.refuses(BAD, () -> r.broker.subscription(0, 1, what));
        }
    }

    private static void subscriptionTells() {
        Check.about("Promise 15: its OPTIONS (what = 0), IDENTIFIER (1; 0 without one), how many bytes were told (2),"
                + " how many messages it got, RETAINED ones too (3)");
        Rig r = some();
        r.feed(0, Rig.publish(1, "t", 0, "p"));
        String longest = "$share/n/" + Rig.repeat("f", 55);
        r.feed(0, Rig.packet(130, Rig.two(1), Rig.properties(11, 255, 255, 255, 127), "t", 14, longest, 42));
        r.feed(0, Rig.publish(0, "t", 0, "not its own"));
        r.feed(2, Rig.publish(0, "t", 0, "q"));
        int[][] due = {{1, 0, 1, 0}, {2, 0, 10, 0}, {14, 268435455, 1, 2}, {42, 268435455, 64, 0}};
        for (int k = 0; k < due.length; k++) {
            for (int what = 0; what < 4; what++) {
                Check.same("subscription " + k + " " + what, due[k][what], r.broker.subscription(0, k, what));
            }
        }
    }

    private static void filter() {
        Check.about("Promise 16: Byte i of what subscription k of a session was told as (with $share/); NONE when it has"
                + " none such. IndexOutOfBoundsException.");
        Rig r = some();
        for (int s : NO_SESSION) {
            Check.refuses(NO_SUCH, () -> r.broker.filter(s, 0, 0));
        }
        for (int k : new int[] {LEAST, -1, 2, 8, MOST}) {
            Check.refuses(NO_SUCH, () -> r.broker.filter(0, k, 0));
        }
        Check.refuses(NO_SUCH, () -> r.broker.filter(1, 0, 0));
        Check.same("told", "a", r.filterOf(0, 0));
        Check.same("told", "$share/n/b", r.filterOf(0, 1));
        Check.same("none", -1, r.broker.filter(0, 0, 1));
        for (int i : new int[] {LEAST, -1, 10, MOST}) {
            Check.same("none", TopicBroker.NONE, r.broker.filter(0, 1, i));
        }
        r.feed(0, Rig.subscribe(1, Rig.repeat("f", 62) + "\u00c3\u00a4", 0));
        Check.same("the last of 64", 164, r.broker.filter(0, 2, 63));
        Check.same("none", -1, r.broker.filter(0, 2, 64));
    }

    private static void retainedOfAnother() {
        Check.about("Promise 17: IllegalArgumentException: another what.");
        Rig r = some();
        r.feed(0, Rig.publish(1, "t", 0, "p"));
        for (int what : new int[] {LEAST, -1, 4, 5, MOST}) {
            Check.refuses(BAD, () -> r.broker.retained(0, what));
            // Also when there is no such message.
            Check.refuses(BAD, () -> r.broker.retained(1, what));
            Check.refuses(BAD, () -> r.broker.retained(-1, what));
        }
    }

    private static void retainedOfNone() {
        Check.about("Promise 17: NONE when there are not so many.");
        Rig r = some();
        for (int i = 0; i < 16; i++) {
            Check.same("none", -1, r.broker.retained(i, 0));
            r.feed(0, Rig.publish(1, "r" + i, 0, "p"));
            Check.same("there", i < 10 ? 2 : 3, r.broker.retained(i, 0));
        }
        for (int i : new int[] {LEAST, -1, 16, 17, MOST}) {
            for (int what = 0; what < 4; what++) {
                Check.same("none", TopicBroker.NONE, r.broker.retained(i, what));
            }
        }
        r.feed(0, Rig.publish(1, "r3", 0, ""));
        Check.same("none", -1, r.broker.retained(15, 0));
        Check.same("the others close up", "r4", r.keptOf(3, false));
    }

    private static void retainedLife() {
        Check.about("Promise 17: (those that are gone by their LIFE do not count) [..] seconds that are left of its LIFE"
                + " (3; NONE without one, 2147483647 at most)");
        Rig r = some();
        long[] lives = {1, 2, 2147483646L, 2147483647L, 2147483648L, Rig.NEVER};
        for (int i = 0; i < lives.length; i++) {
            r.feed(0, Rig.publish(5, "r" + i, 1, Rig.properties(2, Rig.four(lives[i])), "p"));
            r.feed(0, Rig.answer(98, 1));
            Check.same("left", Math.min(lives[i], 2147483647L), r.broker.retained(i, 3));
            Check.same("quality", 2, r.broker.retained(i, 2));
        }
        r.feed(0, Rig.publish(1, "forever", 0, "p"));
        Check.same("without one", TopicBroker.NONE, r.broker.retained(6, 3));
        r.broker.pass(1);
        Check.same("topics", "r1 r2 r3 r4 r5 forever", r.topics());
        long[] due = {1, 2147483645L, 2147483646L, 2147483647L, 2147483647L, -1, -1};
        for (int i = 0; i < due.length; i++) {
            Check.same("left", due[i], r.broker.retained(i, 3));
        }
        r.broker.pass(1);
        Check.same("topics", "r2 r3 r4 r5 forever", r.topics());
        Check.same("left", 2147483646L, r.broker.retained(2, 3));
        r.told(1, 5);
    }

    private static void kept() {
        Check.about("Promise 18: Byte k of RETAINED message i, of its topic, or its payload; NONE when there is none such.");
        Rig r = some();
        Check.same("none", -1, r.broker.kept(0, true, 0));
        Check.same("none", -1, r.broker.kept(0, false, 0));
        r.feed(0, Rig.publish(1, "t\u00c3\u00a4", 0, "\u0000\u00ff"));
        r.feed(0, Rig.publish(1, Rig.repeat("l", 64), 0, Rig.repeat("p", 333)));
        Check.same("topic", 't', r.broker.kept(0, false, 0));
        Check.same("topic", 164, r.broker.kept(0, false, 2));
        Check.same("none", -1, r.broker.kept(0, false, 3));
        Check.same("payload", 0, r.broker.kept(0, true, 0));
        Check.same("payload", 255, r.broker.kept(0, true, 1));
        Check.same("none", -1, r.broker.kept(0, true, 2));
        Check.same("topic", 'l', r.broker.kept(1, false, 63));
        Check.same("payload", 'p', r.broker.kept(1, true, 332));
        for (int k : new int[] {LEAST, -1, 333, MOST}) {
            Check.same("none", TopicBroker.NONE, r.broker.kept(1, true, k));
            Check.same("none", TopicBroker.NONE, r.broker.kept(1, false, k));
        }
        Check.same("none", -1, r.broker.kept(1, false, 64));
        for (int i : new int[] {LEAST, -1, 2, 15, 16, MOST}) {
            Check.same("none", TopicBroker.NONE, r.broker.kept(i, true, 0));
            Check.same("none", TopicBroker.NONE, r.broker.kept(i, false, 0));
        }
    }

    private static void toldOfAnother() {
        Check.about("Promise 19: IllegalArgumentException: another what.");
        TopicBroker b = new TopicBroker();
        for (int what : new int[] {LEAST, -1, 8, 9, MOST}) {
            Check.refuses(BAD, () -> b.told(what));
        }
    }

    private static void toldTells() {
        Check.about("Promise 19: How many: sessions (what = 0), RETAINED messages (1), packets taken (2), packets sent (3),"
                + " messages DISTRIBUTED (4), DROPPED (5), seconds of TIME (6), ids that were made (7).");
        Rig r = some();
        tells(r, 3, 0, 4, 4, 0, 0, 0, 0);
        // One that is gone at once is not RETAINED, but DISTRIBUTED.
        r.feed(0, Rig.publish(1, "r", 0, Rig.properties(2, Rig.four(0)), "p"));
        r.feed(0, Rig.publish(1, "r", 0, Rig.properties(2, Rig.four(1)), "p"));
        tells(r, 3, 1, 6, 4, 2, 0, 0, 0);
        r.broker.pass(1);
        tells(r, 3, 0, 6, 4, 2, 0, 1, 0);
        // A wrong packet is taken, and its DISCONNECT sent; half a packet is not.
        r.feed(2, 192);
        r.feed(0, 0, 0);
        tells(r, 3, 0, 7, 5, 2, 0, 1, 0);
        // "x" hears "a" with quality 1, and is away: 24 WAIT, two are DROPPED.
        r.feed(2, 0);
        for (int i = 0; i < 26; i++) {
            r.feed(2, Rig.publish(2, "a", 1, ""));
        }
        tells(r, 3, 0, 34, 32, 28, 2, 1, 0);
        r.broker.open(3);
        r.feed(3, Rig.connect("", 0, 0, Rig.properties()));
        tells(r, 4, 0, 35, 33, 28, 2, 1, 1);
        r.broker.lose(3);
        tells(r, 3, 0, 35, 33, 28, 2, 1, 1);
        // What is taken from OUT was sent, and what opens again does not count anew.
        r.broker.take(2, 999);
        r.broker.open(3);
        tells(r, 3, 0, 35, 33, 28, 2, 1, 1);
    }

    private static void tells(Rig r, int... due) {
        for (int what = 0; what < due.length; what++) {
            r.told(what, due[what]);
        }
    }
}
