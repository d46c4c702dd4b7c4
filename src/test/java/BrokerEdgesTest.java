import java.util.Arrays;

/** The edges of part 1 of the terms, THE BROKER: connections, OUT and sessions, a test for each sentence. */
public final class BrokerEdgesTest {
    private static final int[] PING = {192, 0};
    private static final int[] PONG = {208, 0};
    private static final int[] NONE = Rig.properties();

    public static void main(String[] args) {
        connectionsAreEight();
        takenWithTheLastByte();
        whatIsNotWholeIsLost();
        whatIsFedBehindIsLost();
        outHoldsTwoThousand();
        nothingBehindWhatDoesNotFit();
        lostBehindThePacket();
        lostBehindLose();
        lostBehindABadVariable();
        lostBehindASecond();
        theLeastNumberFirst();
        againAsLongAsThereAreSuch();
        allEightAtOnce();
        outCanBeReadWhenClosed();
        sessionsAreTwelve();
        idsHaveOneToTwentyBytes();
        theLeastNumberThatIsFree();
        onlineWhileAConnectionHasIt();
        subscriptionsAreEight();
        theLeastNumberThatNoneHas();
        twentyFourWait();
        eightAreHeld();
        timeIsNoneAtFirst();
        Check.end();
    }

    private static void connectionsAreEight() {
        Check.about("CONNECTIONS are 0 .. 7, closed at first.");
        TopicBroker b = new TopicBroker();
        for (int c = 0; c < 8; c++) {
            Check.yes("closed", !b.isOpen(c));
        }
        for (int c = 0; c < 8; c++) {
            b.open(c);
        }
        for (int c = 0; c < 8; c++) {
            Check.yes("open", b.isOpen(c));
        }
        Check.refuses(IndexOutOfBoundsException.class, () -> b.open(-1));
        Check.refuses(IndexOutOfBoundsException.class, () -> b.open(8));
    }

    private static void takenWithTheLastByte() {
        Check.about("What is fed to an open one is taken packet by packet, each as soon as its last byte has come");
        int[] connect = Rig.connect("x", 2, 0, NONE);
        for (int cut = 1; cut < connect.length; cut++) {
            Rig r = new Rig();
            r.broker.open(0);
            Check.same("taken", 0, r.feed(0, Arrays.copyOf(connect, cut)));
            Check.same("pending", cut, r.broker.pending(0));
            Check.same("size", 0, r.broker.size(0));
            r.told(2, 0);
            Check.same("taken", 1, r.feed(0, Arrays.copyOfRange(connect, cut, connect.length)));
            Check.same("pending", 0, r.broker.pending(0));
            r.sends(0, Rig.connack(false));
        }
    }

    private static void whatIsNotWholeIsLost() {
        Check.about("a packet that is not whole when the connection closes [..] is lost");
        Rig r = new Rig();
        r.enter(0, "x", 9);
        r.feed(0, 192);
        r.broker.lose(0);
        Check.same("pending", 0, r.broker.pending(0));
        r.broker.open(0);
        Check.same("pending", 0, r.broker.pending(0));
        Check.same("the next one begins anew", 1, r.feed(0, Rig.connect("x", 0, 0, Rig.expiry(9))));
        r.sends(0, Rig.connack(true));
        // It is the same when another client, or the time, closes it.
        r.feed(0, 130, 40, 0);
        r.enter(1, "x", 9);
        Check.same("pending", 0, r.broker.pending(0));
        r.enter(0, Rig.connect("y", 0, 2, Rig.expiry(9)));
        r.feed(0, 130, 40, 0);
        r.broker.pass(4);
        Check.same("pending", 0, r.broker.pending(0));
        r.told(2, 4);
    }

    private static void whatIsFedBehindIsLost() {
        Check.about("and what is fed behind that in the same call, is lost");
        Rig r = new Rig();
        r.enter(0, "x", 9);
        Check.same("behind DISCONNECT", 1, r.feed(0, Rig.join(new int[] {224, 0}, PING, PING, 192)));
        r.closedWith(0);
        Check.same("pending", 0, r.broker.pending(0));
        r.enter(0, "x", 9);
        Check.same("behind a fault", 2, r.feed(0, Rig.join(PING, new int[] {0, 0}, PING, 192)));
        r.closedWith(0, PONG, Rig.farewell(130));
        Check.same("pending", 0, r.broker.pending(0));
        r.enter(0, "x", 9);
        Check.same("behind a bad VARIABLE", 0, r.feed(0, 192, 128, 128, 128, 128, 192, 0, 192));
        r.closedWith(0, Rig.farewell(129));
        r.enter(0, "x", 9);
        r.fill(0, 1996);
        Check.same("behind what does not fit", 3, r.feed(0, Rig.join(PING, PING, PING, PING, PING)));
        Check.same("size", 2000, r.broker.size(0));
        Check.yes("closed", !r.broker.isOpen(0));
    }

    private static void outHoldsTwoThousand() {
        Check.about("What the broker SENDS to one comes to its OUT, at most 2000 bytes");
        Rig r = new Rig();
        r.enter(0, "x", 9);
        r.fill(0, 2000);
        Check.same("2000 bytes are there", 2000, r.broker.size(0));
        Check.same("the last", 0, r.broker.out(0, 1999));
        Check.yes("open", r.broker.isOpen(0));
        r.broker.take(0, 1);
        r.feed(0, PING);
        Check.same("2001 are not", 1999, r.broker.size(0));
        Check.yes("closed", !r.broker.isOpen(0));
        r.enter(0, "x", 9);
        r.fill(0, 2000);
        r.broker.take(0, 2);
        r.feed(0, PING);
        Check.same("2000 bytes again", 2000, r.broker.size(0));
        Check.yes("open", r.broker.isOpen(0));
    }

    private static void nothingBehindWhatDoesNotFit() {
        Check.about("a packet that does not fit is not sent, nor is anything behind it");
        Rig r = new Rig();
        r.enter(0, "x", 9);
        r.listen(0, "t", 0);
        r.fill(0, 1994);
        int sent = r.broker.told(3);
        r.feed(0, Rig.publish(2, "t", 1, "12345678"));
        Check.same("PUBACK, which would fit, is not there", 1994, r.broker.size(0));
        r.told(3, sent);
        Check.yes("closed", !r.broker.isOpen(0));
        // What is behind it is done, though not sent.
        r.told(4, 1);
        r.told(5, 0);
    }

    private static void lostBehindThePacket() {
        Check.about("the connection is LOST behind what is being done (a packet that is taken");
        Rig r = new Rig();
        r.enter(1, Rig.connect("full", 4, 0, Rig.expiry(9), 0, "w", ""));
        r.listen(1, "t", 0);
        r.enter(2, "seer", 9);
        r.feed(2, Rig.subscribe(1, "t", 0, "w", 0));
        r.broker.take(2, 99);
        r.enter(0, "pub", 9);
        r.listen(0, "w", 0);
        r.fill(1, 2000);
        r.feed(0, Rig.publish(2, "t", 7, "p"));
        r.sends(0, Rig.answer(64, 7), Rig.publish(0, "w", 0, ""));
        r.sends(2, Rig.publish(0, "t", 0, "p"), Rig.publish(0, "w", 0, ""));
        Check.yes("closed", !r.broker.isOpen(1));
    }

    private static void lostBehindLose() {
        Check.about("the connection is LOST behind what is being done ([..] a lose()");
        Rig r = new Rig();
        r.enter(1, Rig.connect("full", 4, 0, Rig.expiry(9), 0, "w/full", ""));
        r.listen(1, "w/first", 0);
        r.enter(2, "seer", 9);
        r.listen(2, "w/+", 0);
        r.enter(0, Rig.connect("first", 4, 0, Rig.expiry(9), 0, "w/first", ""));
        r.fill(1, 2000);
        r.broker.lose(0);
        r.sends(2, Rig.publish(0, "w/first", 0, ""), Rig.publish(0, "w/full", 0, ""));
        Check.yes("closed", !r.broker.isOpen(1));
    }

    private static void lostBehindABadVariable() {
        Check.about("the connection is LOST behind what is being done");
        // A first VARIABLE that is wrong is no packet that is taken, but it brings a will as well.
        Rig r = new Rig();
        r.enter(1, Rig.connect("full", 4, 0, Rig.expiry(9), 0, "w/full", ""));
        r.listen(1, "w/first", 0);
        r.enter(2, "seer", 9);
        r.listen(2, "w/+", 0);
        r.enter(0, Rig.connect("first", 4, 0, Rig.expiry(9), 0, "w/first", ""));
        r.fill(1, 2000);
        Check.same("taken", 0, r.feed(0, 192, 145, 3));
        r.closedWith(0, Rig.farewell(149));
        r.sends(2, Rig.publish(0, "w/first", 0, ""), Rig.publish(0, "w/full", 0, ""));
        Check.yes("closed", !r.broker.isOpen(1));
    }

    private static void lostBehindASecond() {
        Check.about("the connection is LOST behind what is being done ([..] a second of time");
        Rig r = new Rig();
        r.enter(1, Rig.connect("full", 4, 0, Rig.expiry(9), 0, "w/full", ""));
        r.listen(1, "w/late", 0);
        r.enter(2, "seer", 9);
        r.listen(2, "w/+", 0);
        r.enter(0, willOf("late", 2, 99));
        r.enter(3, willOf("end", 50, 2));
        r.enter(4, willOf("next", 3, 99));
        r.fill(1, 2000);
        r.broker.lose(0);
        r.broker.lose(3);
        r.broker.lose(4);
        Check.same("ended", 1, r.broker.pass(3));
        r.sends(2, Rig.publish(0, "w/late", 0, ""), Rig.publish(0, "w/end", 0, ""),
                Rig.publish(0, "w/full", 0, ""), Rig.publish(0, "w/next", 0, ""));
    }

    private static int[] willOf(String id, int delay, int expiry) {
        int[] properties = Rig.properties(24, Rig.four(delay));
        return Rig.connect(id, 4, 0, Rig.expiry(expiry), properties, "w/" + id, "");
    }

    private static void theLeastNumberFirst() {
        Check.about("of several the least number first");
        Rig r = new Rig();
        for (int c : new int[] {6, 2, 4}) {
            r.enter(c, willOf("c" + c, 0, 9));
            r.listen(c, "t", 0);
            r.fill(c, 2000);
        }
        r.enter(3, "seer", 9);
        r.listen(3, "w/+", 0);
        r.feed(3, Rig.publish(0, "t", 0, ""));
        r.sends(3, Rig.publish(0, "w/c2", 0, ""), Rig.publish(0, "w/c4", 0, ""), Rig.publish(0, "w/c6", 0, ""));
    }

    private static void againAsLongAsThereAreSuch() {
        Check.about("and again as long as there are such");
        Rig r = new Rig();
        String[] hears = {"", "", "w/c5", "", "", "t", "w/c2"};
        for (int c : new int[] {6, 5, 2}) {
            r.enter(c, willOf("c" + c, 0, 9));
            r.listen(c, hears[c], 0);
            r.fill(c, 2000);
        }
        r.enter(0, "seer", 9);
        r.listen(0, "w/+", 0);
        r.feed(0, Rig.publish(0, "t", 0, ""));
        r.sends(0, Rig.publish(0, "w/c5", 0, ""), Rig.publish(0, "w/c2", 0, ""), Rig.publish(0, "w/c6", 0, ""));
        for (int c : new int[] {2, 5, 6}) {
            Check.yes("closed", !r.broker.isOpen(c));
            Check.same("size", 2000, r.broker.size(c));
        }
    }

    private static void allEightAtOnce() {
        Check.about("and again as long as there are such");
        Rig r = new Rig();
        for (int c = 0; c < 8; c++) {
            r.enter(c, "c" + c, c);
            r.feed(c, Rig.subscribe(1, "t", 0, "+", 0, "#", 0, "t/#", 0, "+/#", 0));
            r.broker.take(c, 99);
        }
        r.feed(0, Rig.publish(0, "t", 0, Rig.repeat("p", 392)));
        for (int c = 0; c < 8; c++) {
            Check.same("size", 5 * 399, r.broker.size(c));
            Check.yes("open", r.broker.isOpen(c));
        }
        r.feed(0, Rig.publish(0, "t", 0, "p"));
        for (int c = 0; c < 8; c++) {
            Check.same("size", 5 * 399, r.broker.size(c));
            Check.yes("closed", !r.broker.isOpen(c));
        }
        r.told(0, 7);
    }

    private static void outCanBeReadWhenClosed() {
        Check.about("OUT can be read and taken also when it is closed, until it opens again: then it is empty.");
        Rig r = new Rig();
        r.enter(0, "x", 9);
        r.feed(0, Rig.join(PING, PING, PING));
        r.broker.lose(0);
        Check.same("size", 6, r.broker.size(0));
        Check.same("byte", 208, r.broker.out(0, 4));
        Check.same("taken", 5, r.broker.take(0, 1));
        Check.same("byte", 208, r.broker.out(0, 3));
        r.broker.pass(9);
        Check.same("size", 5, r.broker.size(0));
        r.broker.open(0);
        Check.same("size", 0, r.broker.size(0));
        Check.same("byte", -1, r.broker.out(0, 0));
        Check.same("taken", 0, r.broker.take(0, 1));
    }

    private static void sessionsAreTwelve() {
        Check.about("SESSIONS, 0 .. 11");
        Rig r = new Rig();
        for (int i = 0; i < 12; i++) {
            r.enter(0, "c" + i, 99);
            r.broker.lose(0);
            Check.yes("there", r.broker.isSession(i));
            Check.yes("not there", !r.broker.isSession(i + 1));
        }
        r.broker.open(0);
        r.feed(0, Rig.connect("c12", 0, 0, Rig.expiry(99)));
        r.closedWith(0, Rig.refusal(151));
        r.told(0, 12);
        Check.same("the last", "c11", r.idOf(11));
    }

    private static void idsHaveOneToTwentyBytes() {
        Check.about("told by an id of 1 to 20 bytes");
        Rig r = new Rig();
        r.enter(0, "i", 9);
        r.enter(1, Rig.repeat("i", 20), 9);
        r.session(0, 6, 1);
        r.session(1, 6, 20);
        r.broker.open(2);
        r.feed(2, Rig.connect(Rig.repeat("i", 21), 0, 0, Rig.expiry(9)));
        r.closedWith(2, Rig.refusal(133));
        // Ids that differ in their last byte alone, or in their length, are of different clients.
        r.enter(2, Rig.repeat("i", 19) + "j", 9);
        r.enter(3, Rig.repeat("i", 19), 9);
        r.told(0, 4);
        r.enter(4, Rig.repeat("i", 20), 9);
        r.session(1, 0, 4);
    }

    private static void theLeastNumberThatIsFree() {
        Check.about("a new one gets the least number that is free");
        Rig r = new Rig();
        for (int c = 0; c < 4; c++) {
            r.enter(c, "c" + c, 0);
        }
        r.broker.lose(2);
        r.broker.lose(0);
        r.enter(0, "first", 0);
        r.enter(2, "second", 0);
        r.enter(4, "third", 0);
        Check.same("the least", "first", r.idOf(0));
        Check.same("the next", "second", r.idOf(2));
        Check.same("behind all", "third", r.idOf(4));
    }

    private static void onlineWhileAConnectionHasIt() {
        Check.about("A session is ONLINE while a connection has it.");
        Rig r = new Rig();
        r.enter(0, "x", 9);
        r.session(0, 0, 0);
        r.broker.lose(0);
        r.session(0, 0, -1);
        r.enter(7, "x", 9);
        r.session(0, 0, 7);
        r.broker.open(0);
        r.broker.lose(0);
        r.session(0, 0, 7);
    }

    private static void subscriptionsAreEight() {
        Check.about("It has SUBSCRIPTIONS, at most 8, in the order in which they came");
        Rig r = new Rig();
        r.enter(0, "x", 9);
        String all = "hgfedcba";
        for (int k = 0; k < 8; k++) {
            r.feed(0, Rig.subscribe(1, all.substring(k, k + 1), 0));
            r.sends(0, Rig.suback(1, 0));
        }
        r.feed(0, Rig.subscribe(1, "i", 0));
        r.sends(0, Rig.suback(1, 151));
        r.session(0, 1, 8);
        for (int k = 0; k < 8; k++) {
            Check.same("told", all.substring(k, k + 1), r.filterOf(0, k));
        }
    }

    private static void theLeastNumberThatNoneHas() {
        Check.about("messages ON THE WAY, each with a number (1 and on, the least that none has)");
        Rig r = new Rig();
        r.enter(0, "x", 9);
        r.listen(0, "t", 1);
        r.enter(1, "y", 9);
        for (int n = 1; n <= 16; n++) {
            r.feed(1, Rig.publish(2, "t", 1, "p"));
            r.sends(0, Rig.publish(2, "t", n, "p"));
        }
        for (int n : new int[] {16, 5, 3}) {
            r.feed(0, Rig.answer(64, n));
        }
        for (int n : new int[] {3, 5, 16}) {
            r.feed(1, Rig.publish(2, "t", 1, "q"));
            r.sends(0, Rig.publish(2, "t", n, "q"));
        }
        // Numbers are of one session alone.
        r.listen(1, "u", 1);
        r.feed(0, Rig.publish(2, "u", 9, ""));
        r.sends(1, Rig.publish(2, "u", 1, ""));
    }

    private static void twentyFourWait() {
        Check.about("messages that WAIT, at most 24, in order");
        Rig r = new Rig();
        r.enter(0, "x", 99);
        r.listen(0, "t", 1);
        r.broker.lose(0);
        r.enter(1, "y", 99);
        for (int i = 1; i <= 24; i++) {
            r.feed(1, Rig.publish(2, "t", 1, "m" + i));
            r.session(0, 3, i);
        }
        r.told(5, 0);
        r.feed(1, Rig.publish(2, "t", 1, "m25"));
        r.session(0, 3, 24);
        r.told(5, 1);
        r.broker.open(0);
        r.feed(0, Rig.connect("x", 0, 0, Rig.properties(17, Rig.four(99), 33, Rig.two(1))));
        r.sends(0, Rig.connack(true), Rig.publish(2, "t", 1, "m1"));
        for (int i = 2; i <= 24; i++) {
            r.feed(0, Rig.answer(64, 1));
            r.sends(0, Rig.publish(2, "t", 1, "m" + i));
        }
        r.feed(0, Rig.answer(64, 1));
        r.sends(0);
    }

    private static void eightAreHeld() {
        Check.about("numbers that are HELD, at most 8");
        Rig r = new Rig();
        r.enter(0, "x", 9);
        for (int n = 1; n <= 8; n++) {
            r.feed(0, Rig.publish(4, "t", n * 1000, ""));
            r.sends(0, Rig.answer(80, n * 1000, 16));
            r.session(0, 4, n);
        }
        r.feed(0, Rig.publish(4, "t", 9000, ""));
        r.closedWith(0, Rig.farewell(147));
        r.session(0, 4, 8);
    }

    private static void timeIsNoneAtFirst() {
        Check.about("TIME is in seconds, 0 at first.");
        Rig r = new Rig();
        r.told(6, 0);
        r.broker.pass(1);
        r.told(6, 1);
    }
}
