/** Promises 1 to 9: a new object, and connections with their bytes in and out. */
public final class ConnectionTest {
    private static final Class<IndexOutOfBoundsException> NO_SUCH = IndexOutOfBoundsException.class;
    private static final Class<IllegalArgumentException> BAD = IllegalArgumentException.class;
    private static final Class<IllegalStateException> STATE = IllegalStateException.class;
    private static final int[] PING = {192, 0};
    private static final int[] PONG = {208, 0};

    public static void main(String[] args) {
        aNewObjectIsEmpty();
        openAndClose();
        wrongConnections();
        bytesComeLowestFirst();
        packetsInPieces();
        severalPacketsInOneCall();
        whatIsBehindAClosingPacketIsLost();
        firstVariable();
        longestPacket();
        takingFromOut();
        outStaysUntilItOpensAgain();
        outIsFull();
        outIsJustFull();
        fullOnesGoByNumber();
        fullOnesDragOthers();
        loseSettlesOthers();
        Check.end();
    }

    private static void aNewObjectIsEmpty() {
        TopicBroker b = new TopicBroker();
        for (int c = 0; c < 8; c++) {
            Check.yes("closed", !b.isOpen(c));
            Check.same("size", 0, b.size(c));
            Check.same("pending", 0, b.pending(c));
            Check.same("out", -1, b.out(c, 0));
            Check.same("take", 0, b.take(c, 3));
        }
        for (int s = 0; s < 12; s++) {
            Check.yes("no session", !b.isSession(s));
        }
        for (int what = 0; what < 8; what++) {
            Check.same("told " + what, 0, b.told(what));
        }
        Check.same("retained", -1, b.retained(0, 0));
        Check.same("kept", -1, b.kept(0, false, 0));
    }

    private static void openAndClose() {
        Rig r = new Rig();
        r.broker.open(7);
        Check.yes("7 is open", r.broker.isOpen(7));
        Check.yes("0 is not", !r.broker.isOpen(0));
        Check.refuses(STATE, () -> r.broker.open(7));
        Check.yes("7 is still open", r.broker.isOpen(7));
        r.broker.lose(7);
        Check.yes("7 is closed", !r.broker.isOpen(7));
        Check.refuses(STATE, () -> r.broker.lose(7));
        r.broker.open(7);
        Check.yes("7 is open again", r.broker.isOpen(7));
        r.told(0, 0);
    }

    private static void wrongConnections() {
        TopicBroker b = new TopicBroker();
        for (int c : new int[] {-1, 8, 9, Integer.MIN_VALUE, Integer.MAX_VALUE}) {
            Check.refuses(NO_SUCH, () -> b.open(c));
            Check.refuses(NO_SUCH, () -> b.feed(c, 0, 0, 1));
            Check.refuses(NO_SUCH, () -> b.feed(c, 0, 0, 0));
            Check.refuses(NO_SUCH, () -> b.lose(c));
            Check.refuses(NO_SUCH, () -> b.isOpen(c));
            Check.refuses(NO_SUCH, () -> b.size(c));
            Check.refuses(NO_SUCH, () -> b.out(c, 0));
            Check.refuses(NO_SUCH, () -> b.take(c, 1));
            Check.refuses(NO_SUCH, () -> b.take(c, -1));
            Check.refuses(NO_SUCH, () -> b.pending(c));
        }
        for (int n : new int[] {0, 17, -1, Integer.MIN_VALUE, Integer.MAX_VALUE}) {
            Check.refuses(BAD, () -> b.feed(0, 0, 0, n));
        }
        Check.refuses(STATE, () -> b.feed(0, 0, 0, 1));
        Check.refuses(STATE, () -> b.feed(0, 0, 0, 16));
        b.open(0);
        Check.refuses(BAD, () -> b.feed(0, 0, 0, 17));
        Check.same("nothing came", 0, b.pending(0));
        Check.refuses(BAD, () -> b.take(0, -1));
        Check.refuses(BAD, () -> b.take(0, Integer.MIN_VALUE));
    }

    private static void bytesComeLowestFirst() {
        TopicBroker b = new TopicBroker();
        b.open(0);
        Check.same("CONNECT", 1, b.feed(0, 0x5454514D04000E10L, 0x6101000000000205L, 16));
        Check.same("CONNACK", 32, b.out(0, 0));
        Check.same("its session", 0, b.session(0, 0));
        Check.same("its id", 'a', b.id(0, 0));
        int size = b.size(0);
        Check.same("what is above n does not come", 1, b.feed(0, 0xFFFFFFFFFFFF00C0L, -1L, 2));
        Check.same("nothing is pending", 0, b.pending(0));
        Check.same("PINGRESP", size + 2, b.size(0));
        Check.same("the ninth byte is the lowest of b", 4, b.feed(0, 0x00C000C000C000C0L, 0xC0L, 9));
        Check.same("half a packet", 1, b.pending(0));
    }

    private static void packetsInPieces() {
        for (int step = 1; step <= 16; step++) {
            Rig r = new Rig();
            r.broker.open(3);
            int[] connect = Rig.connect("piece", 2, 10, Rig.properties());
            Check.same("taken", 1, r.feedBy(step, 3, connect));
            r.sends(3, Rig.connack(false));
            Check.same("taken", 1, r.feedBy(step, 3, Rig.subscribe(7, "a/b", 1)));
            r.sends(3, Rig.suback(7, 1));
        }
        Rig r = new Rig();
        r.broker.open(0);
        int[] connect = Rig.connect("piece", 2, 10, Rig.properties());
        for (int i = 0; i < connect.length; i++) {
            Check.same("pending", i, r.broker.pending(0));
            Check.same("size", 0, r.broker.size(0));
            Check.same("taken", i == connect.length - 1 ? 1 : 0, r.feed(0, connect[i]));
        }
        Check.same("pending", 0, r.broker.pending(0));
        r.told(2, 1);
    }

    private static void severalPacketsInOneCall() {
        Rig r = new Rig();
        r.enter(0, "x", 0);
        Check.same("taken", 8, r.feed(0, Rig.join(PING, PING, PING, PING, PING, PING, PING, PING)));
        r.sends(0, PONG, PONG, PONG, PONG, PONG, PONG, PONG, PONG);
        Check.same("taken", 1, r.feed(0, 192, 0, 192));
        Check.same("pending", 1, r.broker.pending(0));
        Check.same("taken", 1, r.feed(0, 0, 130));
        r.told(2, 11);
        r.told(3, 11);
    }

    private static void whatIsBehindAClosingPacketIsLost() {
        Rig r = new Rig();
        r.enter(0, "x", 9);
        Check.same("taken", 2, r.feed(0, Rig.join(PING, new int[] {224, 0}, PING, PING)));
        r.closedWith(0, PONG);
        Check.same("pending", 0, r.broker.pending(0));
        r.told(2, 3);
        r.enter(0, "x", 9);
        r.feed(0, 130, 20, 1);
        Check.same("pending", 3, r.broker.pending(0));
        r.broker.lose(0);
        Check.same("pending", 0, r.broker.pending(0));
        r.broker.open(0);
        Check.same("a new packet begins", 1, r.feed(0, Rig.connect("x", 0, 0, Rig.expiry(9))));
        r.sends(0, Rig.connack(true));
    }

    private static void firstVariable() {
        Rig r = new Rig();
        r.enter(0, "x", 9);
        Check.same("it need not be short", 1, r.feed(0, 192, 128, 128, 128, 0));
        r.sends(0, PONG);
        Check.same("three bytes of 128", 0, r.feed(0, 192, 128, 128, 128));
        Check.yes("still open", r.broker.isOpen(0));
        Check.same("a fourth one", 0, r.feed(0, 128, 192, 0));
        r.closedWith(0, Rig.farewell(129));
        r.told(2, 2);
        r.enter(0, "x", 9);
        Check.same("401 follow", 0, r.feed(0, 48, 145));
        Check.yes("still open", r.broker.isOpen(0));
        Check.same("401 follow", 0, r.feed(0, 3, 0));
        r.closedWith(0, Rig.farewell(149));
        r.enter(0, "x", 9);
        Check.same("very many follow", 0, r.feed(0, 240, 255, 255, 255, 127));
        r.closedWith(0, Rig.farewell(149));
        r.broker.open(1);
        r.feed(1, 16, 255, 255, 255, 255);
        r.closedWith(1, Rig.refusal(129));
        r.broker.open(1);
        r.feed(1, 16, 145, 3);
        r.closedWith(1, Rig.refusal(149));
        r.broker.open(1);
        r.feed(1, 192, 145, 3);
        r.closedWith(1);
        r.broker.open(1);
        r.feed(1, 32, 128, 128, 128, 128);
        r.closedWith(1);
    }

    private static void longestPacket() {
        Rig r = new Rig();
        r.enter(0, "x", 9);
        r.listen(0, "t", 0);
        int[] publish = Rig.publish(0, "t", 0, Rig.repeat("p", 396));
        Check.same("its bytes", 403, publish.length);
        Check.same("taken", 1, r.feed(0, publish));
        r.sends(0, publish);
        r.feed(0, Rig.publish(0, "t", 0, Rig.repeat("p", 397)));
        r.closedWith(0, Rig.farewell(149));
    }

    private static void takingFromOut() {
        Rig r = new Rig();
        r.broker.open(2);
        r.feed(2, Rig.connect("x", 2, 0, Rig.properties()));
        int[] due = Rig.connack(false);
        Check.same("size", due.length, r.broker.size(2));
        Check.same("no byte before", -1, r.broker.out(2, -1));
        Check.same("no byte before", -1, r.broker.out(2, Integer.MIN_VALUE));
        Check.same("no byte behind", -1, r.broker.out(2, due.length));
        Check.same("no byte behind", -1, r.broker.out(2, Integer.MAX_VALUE));
        Check.same("take none", due.length, r.broker.take(2, 0));
        Check.same("take 5", due.length - 5, r.broker.take(2, 5));
        for (int i = 5; i < due.length; i++) {
            Check.same("byte", due[i], r.broker.out(2, i - 5));
        }
        Check.same("the end moved", -1, r.broker.out(2, due.length - 5));
        r.feed(2, PING);
        Check.same("behind it", due.length - 3, r.broker.size(2));
        Check.same("behind it", 208, r.broker.out(2, due.length - 5));
        Check.same("take more", 0, r.broker.take(2, Integer.MAX_VALUE));
        Check.same("size", 0, r.broker.size(2));
    }

    private static void outStaysUntilItOpensAgain() {
        Rig r = new Rig();
        r.broker.open(0);
        r.feed(0, Rig.connect("x", 2, 0, Rig.properties()));
        r.broker.lose(0);
        Check.same("size", 16, r.broker.size(0));
        Check.same("byte", 32, r.broker.out(0, 0));
        Check.same("take", 13, r.broker.take(0, 3));
        r.broker.open(0);
        Check.same("size", 0, r.broker.size(0));
        Check.same("byte", -1, r.broker.out(0, 0));
    }

    private static void outIsFull() {
        Rig r = new Rig();
        r.enter(0, "x", 9);
        r.enter(1, "y", 9);
        r.listen(0, "#", 0);
        r.fill(0, 1990);
        Check.same("size", 1990, r.broker.size(0));
        // The first does not fit, and so the second, which would, is not sent either.
        int before = r.broker.told(3);
        r.feed(0, Rig.subscribe(3, "a", 0, "b", 0, "c", 0, "d", 0, "e", 0, "f", 0, "g", 0));
        Check.yes("closed", !r.broker.isOpen(0));
        Check.same("size", 1990, r.broker.size(0));
        r.told(3, before);
        r.session(0, 1, 8);
        r.session(0, 0, -1);
        r.told(0, 2);
    }

    private static void outIsJustFull() {
        Rig r = new Rig();
        r.enter(0, "x", 9);
        r.fill(0, 2000);
        Check.same("size", 2000, r.broker.size(0));
        Check.yes("open", r.broker.isOpen(0));
        r.broker.take(0, 1);
        r.feed(0, PING);
        Check.yes("closed", !r.broker.isOpen(0));
        Check.same("size", 1999, r.broker.size(0));
    }

    private static void fullOnesGoByNumber() {
        Rig r = new Rig();
        for (int c = 3; c >= 1; c--) {
            r.enter(c, Rig.connect("c" + c, 4, 0, Rig.expiry(9), 0, "w/" + c, ""));
            r.listen(c, "t", 0);
        }
        r.enter(0, "seer", 9);
        r.listen(0, "w/+", 0);
        for (int c = 1; c <= 3; c++) {
            r.fill(c, 2000);
        }
        r.feed(0, Rig.publish(0, "t", 0, ""));
        r.sends(0, Rig.publish(0, "w/1", 0, ""), Rig.publish(0, "w/2", 0, ""),
                Rig.publish(0, "w/3", 0, ""));
        for (int c = 1; c <= 3; c++) {
            Check.yes("closed", !r.broker.isOpen(c));
        }
    }

    private static void fullOnesDragOthers() {
        Rig r = new Rig();
        r.enter(5, Rig.connect("c5", 4, 0, Rig.expiry(9), 0, "w/5", ""));
        r.listen(5, "t", 0);
        r.enter(2, Rig.connect("c2", 4, 0, Rig.expiry(9), 0, "w/2", ""));
        r.listen(2, "w/5", 0);
        r.enter(6, "c6", 9);
        r.listen(6, "w/2", 0);
        r.enter(0, "pub", 9);
        r.fill(5, 2000);
        r.fill(2, 2000);
        r.fill(6, 2000);
        r.feed(0, Rig.publish(0, "t", 0, ""));
        for (int c : new int[] {5, 2, 6}) {
            Check.yes("closed", !r.broker.isOpen(c));
        }
        Check.yes("open", r.broker.isOpen(0));
        r.told(4, 3);
    }

    private static void loseSettlesOthers() {
        Rig r = new Rig();
        r.enter(0, Rig.connect("c0", 4, 0, Rig.expiry(9), 0, "w", ""));
        r.enter(1, "c1", 9);
        r.listen(1, "w", 1);
        r.fill(1, 2000);
        r.broker.lose(0);
        Check.yes("closed", !r.broker.isOpen(1));
        Check.same("size", 2000, r.broker.size(1));
    }
}
