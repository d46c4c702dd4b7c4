import java.util.Arrays;

/** The edges of part 3 of the terms, FAULTS: which one is met first, and when, a test for each sentence. */
public final class FaultEdgesTest {
    private static final int[] NONE = Rig.properties();

    public static void main(String[] args) {
        variablesOfMoreThanFour();
        flagsThatAreNotAsTold();
        valuesThatAreNotAsTold();
        bytesThatEndWithin();
        propertiesOfMoreThanIsLeft();
        valuesBeyondTheirProperties();
        valuesBeyondThePacket();
        bytesLeftBehind();
        keysThatMayNotBe();
        keysThatAreThereTwice();
        moreThanFourHundred();
        theFourthByteAsItComes();
        theLengthWithItsLastByte();
        suchAPacketIsNotTaken();
        allElseWhenItIsWhole();
        takenWhateverIsWrong();
        typeBeforeFlags();
        flagsBeforeAllElse();
        disconnectIsSent();
        connackIsSent();
        nothingIsSent();
        typesThatAreNone();
        aSecondConnect();
        thatConnectionAlone();
        Check.end();
    }

    private static Rig one() {
        Rig r = new Rig();
        r.enter(0, "x", 9);
        return r;
    }

    /** On a connection with a session this packet is that fault; 0: it is none. */
    private static void fault(int due, int[] packet) {
        Rig r = one();
        Check.same("taken", 1, r.feed(0, packet));
        if (due == 0) {
            Check.yes("it is no fault", r.broker.isOpen(0));
        } else {
            r.closedWith(0, Rig.farewell(due));
        }
    }

    /** On a connection without one. */
    private static void refused(int due, int[] packet) {
        Rig r = new Rig();
        r.broker.open(0);
        Check.same("taken", 1, r.feed(0, packet));
        r.closedWith(0, Rig.refusal(due));
    }

    private static void variablesOfMoreThanFour() {
        Check.about("129: a VARIABLE of more than four bytes");
        fault(0, Rig.packet(48, "t", 128, 128, 128, 0));
        fault(129, Rig.packet(48, "t", 128, 128, 128, 128));
        fault(129, Rig.packet(48, "t", 128, 128, 128, 128, 0));
        fault(0, Rig.packet(64, Rig.two(1), 0, 128, 128, 128, 0));
        fault(129, Rig.packet(64, Rig.two(1), 0, 128, 128, 128, 128, 0));
        fault(0, Rig.packet(130, Rig.two(1), Rig.properties(11, 129, 128, 128, 0), "a", 0));
        fault(129, Rig.packet(130, Rig.two(1), Rig.properties(11, 129, 128, 128, 128, 0), "a", 0));
        refused(129, Rig.packet(16, "MQTT", 5, 2, 0, 0, 128, 128, 128, 128, 0, "x"));
    }

    private static void flagsThatAreNotAsTold() {
        Check.about("flags that are not as told");
        for (int flags = 0; flags < 16; flags++) {
            for (int first : new int[] {64, 80, 112}) {
                fault(flags == 0 ? 0 : 129, Rig.packet(first + flags, Rig.two(1)));
            }
            fault(flags == 2 ? 0 : 129, Rig.packet(96 + flags, Rig.two(1)));
            fault(flags == 2 ? 0 : 129, Rig.packet(128 + flags, Rig.two(1), 0, "a", 0));
            fault(flags == 2 ? 0 : 129, Rig.packet(160 + flags, Rig.two(1), 0, "a"));
            fault(flags == 0 ? 0 : 129, Rig.packet(192 + flags));
            if (flags != 0) {
                fault(129, Rig.packet(224 + flags));
                refused(129, Rig.packet(16 + flags, "MQTT", 5, 2, 0, 0, 0, "x"));
            }
        }
    }

    private static void valuesThatAreNotAsTold() {
        Check.about("a value that is not as told in 2");
        fault(129, Rig.publish(0, "t", 0, Rig.properties(1, 2), ""));
        fault(129, Rig.publish(0, "t", 0, Rig.properties(3, "\u00ff"), ""));
        fault(129, Rig.publish(0, "t", 0, Rig.properties(8, "\u0080"), ""));
        fault(129, Rig.publish(0, "t", 0, Rig.properties(38, "\u0000", ""), ""));
        fault(129, Rig.publish(0, "t", 0, Rig.properties(38, "", "\u0000"), ""));
        fault(129, Rig.publish(0, "\u00c3", 0, ""));
        fault(129, Rig.subscribe(1, "\u00c3", 0));
        fault(129, Rig.unsubscribe(1, "\u00c3"));
        refused(129, Rig.connect("\u00c3", 2, 0, NONE));
        refused(129, Rig.connect("x", 4, 0, NONE, 0, "\u00c3", ""));
        refused(129, Rig.connect("x", 128, 0, NONE, "\u00c3"));
    }

    private static void bytesThatEndWithin() {
        Check.about("bytes that end within a value or a row of properties");
        int[][] whole = {Rig.join("t", 0, 7, 0), Rig.join(0, 1, 0, "a", 0), Rig.join(0, 1, 0, "a"),
            Rig.join(0, 1, 0, Rig.properties(31, "why")), Rig.join(0, Rig.properties(17, Rig.four(9)))};
        int[] first = {50, 130, 162, 64, 224};
        // Where a packet may end before its last byte, by what the document says of it.
        int[][] may = {{}, {3}, {3}, {2, 3}, {0, 1}};
        for (int i = 0; i < whole.length; i++) {
            for (int length = 0; length < whole[i].length; length++) {
                boolean ends = false;
                for (int fine : may[i]) {
                    ends |= fine == length;
                }
                // Without an entry SUBSCRIBE and UNSUBSCRIBE are at fault, but with another number.
                int due = !ends ? 129 : first[i] == 130 || first[i] == 162 ? 130 : 0;
                if (first[i] != 224 || !ends) {
                    fault(due, Rig.packet(first[i], Arrays.copyOf(whole[i], length)));
                }
            }
        }
        int[] connect = Rig.join("MQTT", 5, 230, 0, 9, Rig.properties(17, Rig.four(9)), "x",
                Rig.properties(24, Rig.four(1)), "w", "p", "u", "s");
        for (int length = 0; length < connect.length; length++) {
            refused(129, Rig.packet(16, Arrays.copyOf(connect, length)));
        }
    }

    private static void propertiesOfMoreThanIsLeft() {
        Check.about("properties that would have more bytes than the packet has left (met at their VARIABLE)");
        fault(0, Rig.packet(48, "t", 2, 1, 1));
        fault(129, Rig.packet(48, "t", 3, 1, 1));
        // It is met before the key that the packet may not have.
        fault(130, Rig.packet(48, "t", 2, 99, 1));
        fault(129, Rig.packet(48, "t", 3, 99, 1));
        fault(130, Rig.packet(64, Rig.two(1), 0, 1, 99));
        fault(129, Rig.packet(64, Rig.two(1), 0, 2, 99));
        fault(130, Rig.packet(224, 0, 1, 99));
        fault(129, Rig.packet(224, 0, 2, 99));
        fault(130, Rig.packet(130, Rig.two(1), 5, 99, "a", 0));
        fault(129, Rig.packet(130, Rig.two(1), 6, 99, "a", 0));
        fault(130, Rig.packet(162, Rig.two(1), 4, 99, "a"));
        fault(129, Rig.packet(162, Rig.two(1), 5, 99, "a"));
        refused(130, Rig.packet(16, "MQTT", 5, 2, 0, 0, 4, 99, "x"));
        refused(129, Rig.packet(16, "MQTT", 5, 2, 0, 0, 5, 99, "x"));
        fault(129, Rig.packet(48, "t", 255, 255, 255, 127, 99));
    }

    private static void valuesBeyondTheirProperties() {
        Check.about("a value that goes beyond its properties [..] (met before it is looked at)");
        // Each is followed by what would make it right, or wrong in another way, if it went on.
        fault(129, Rig.packet(48, "t", 1, 1, 0));
        fault(129, Rig.packet(48, "t", 3, 2, 0, 0, 0, 0));
        fault(129, Rig.packet(48, "t", 2, 35, 0, 9));
        fault(129, Rig.packet(48, "t", 4, 8, 0, 2, 114, 43));
        fault(129, Rig.packet(48, "t", 4, 3, 0, 2, 97, 97));
        fault(129, Rig.packet(48, "t", 6, 38, 0, 1, 97, 0, 1, 97));
        fault(129, Rig.packet(130, Rig.two(1), 2, 11, 128, 1, "a", 0));
        fault(129, Rig.packet(224, 0, 4, 17, 0, 0, 0, 9));
        refused(129, Rig.packet(16, "MQTT", 5, 2, 0, 0, 2, 33, 0, 0, "x"));
        refused(129, Rig.packet(16, "MQTT", 5, 2, 0, 0, 4, 39, 0, 0, 0, 0, "x"));
    }

    private static void valuesBeyondThePacket() {
        Check.about("a value that goes beyond [..] the packet (met before it is looked at)");
        // What is there of it would be 144, 130, 132 or 143.
        fault(129, Rig.packet(48, Rig.two(2), 43));
        fault(129, Rig.packet(50, "t", 0));
        fault(129, Rig.packet(64, 0));
        fault(129, Rig.packet(130, 0));
        fault(129, Rig.packet(130, Rig.two(1), 0, Rig.two(3), 35, 35));
        fault(129, Rig.packet(162, Rig.two(1), 0, Rig.two(3), 35, 35));
        refused(129, Rig.packet(16, Rig.two(5), 88, 88, 88, 88));
        refused(129, Rig.packet(16, "MQTT"));
        refused(129, Rig.packet(16, "MQTT", 5, 4, 0, 0, 0, "x", 0, Rig.two(2), 43));
    }

    private static void bytesLeftBehind() {
        Check.about("bytes left behind the last value");
        for (int first : new int[] {64, 80, 98, 112}) {
            fault(0, Rig.packet(first, Rig.two(1), 0, 0));
            fault(129, Rig.packet(first, Rig.two(1), 0, 0, 0));
        }
        fault(129, Rig.packet(192, 0));
        fault(129, Rig.packet(224, 0, 0, 0));
        fault(129, Rig.packet(224, 0, Rig.properties(31, "why"), 1));
        refused(129, Rig.packet(16, "MQTT", 5, 2, 0, 0, 0, "x", 0));
        refused(129, Rig.packet(16, "MQTT", 5, 4, 0, 0, 0, "x", 0, "w", "p", 0));
        refused(129, Rig.packet(16, "MQTT", 5, 194, 0, 0, 0, "x", "u", "p", 0));
        // SUBSCRIBE and UNSUBSCRIBE go on with a STRING, which ends too early.
        fault(129, Rig.packet(130, Rig.two(1), 0, "a", 0, 0));
        fault(129, Rig.packet(162, Rig.two(1), 0, "a", 0));
    }

    private static void keysThatMayNotBe() {
        Check.about("130: a key that the packet may not have");
        for (int key = 0; key < 256; key++) {
            boolean users = key == 38;
            // A key that may be is at fault by its missing value, any other by itself.
            boolean publish = users || key >= 1 && key <= 3 || key == 8 || key == 9 || key == 35;
            fault(publish ? 129 : 130, Rig.publish(0, "t", 0, Rig.properties(key), ""));
            fault(users || key == 31 ? 129 : 130, Rig.packet(64, Rig.two(1), 0, Rig.properties(key)));
            fault(users || key == 31 ? 129 : 130, Rig.packet(80, Rig.two(1), 0, Rig.properties(key)));
            fault(users || key == 31 ? 129 : 130, Rig.packet(98, Rig.two(1), 0, Rig.properties(key)));
            fault(users || key == 31 ? 129 : 130, Rig.packet(112, Rig.two(1), 0, Rig.properties(key)));
            fault(users || key == 11 ? 129 : 130, Rig.packet(130, Rig.two(1), Rig.properties(key), "a", 0));
            fault(users ? 129 : 130, Rig.packet(162, Rig.two(1), Rig.properties(key), "a"));
            fault(users || key == 17 || key == 31 ? 129 : 130, Rig.packet(224, 0, Rig.properties(key)));
            boolean connect = users || key == 17 || key >= 21 && key <= 23 || key == 25 || key == 33 || key == 34
                    || key == 39;
            refused(connect ? 129 : 130, Rig.connect("x", 2, 0, Rig.properties(key)));
            boolean will = users || key >= 1 && key <= 3 || key == 8 || key == 9 || key == 24;
            refused(will ? 129 : 130, Rig.connect("x", 4, 0, NONE, Rig.properties(key), "w", ""));
        }
    }

    private static void keysThatAreThereTwice() {
        Check.about("130: a key that [..] or twice");
        // It is met at the key, before its value: that is missing here.
        fault(130, Rig.publish(0, "t", 0, Rig.properties(1, 0, 1), ""));
        fault(130, Rig.publish(0, "t", 0, Rig.properties(2, Rig.four(1), 2), ""));
        fault(130, Rig.publish(0, "t", 0, Rig.properties(3, "", 3), ""));
        fault(130, Rig.publish(0, "t", 0, Rig.properties(8, "r", 8), ""));
        fault(130, Rig.publish(0, "t", 0, Rig.properties(9, "", 9), ""));
        fault(130, Rig.publish(0, "t", 0, Rig.properties(35, Rig.two(1), 35), ""));
        fault(129, Rig.publish(0, "t", 0, Rig.properties(38, "", "", 38), ""));
        fault(130, Rig.packet(64, Rig.two(1), 0, Rig.properties(31, "", 31)));
        fault(130, Rig.packet(130, Rig.two(1), Rig.properties(11, 1, 11), "a", 0));
        fault(130, Rig.packet(224, 0, Rig.properties(17, Rig.four(1), 17)));
        fault(130, Rig.packet(224, 0, Rig.properties(31, "", 31)));
        Object[][] connect = {{17, Rig.four(1), 17}, {21, "", 21}, {22, "", 22}, {23, 0, 23}, {25, 0, 25},
            {33, Rig.two(1), 33}, {34, Rig.two(1), 34}, {39, Rig.four(1), 39}};
        for (Object[] twice : connect) {
            refused(130, Rig.connect("x", 2, 0, Rig.properties(twice)));
        }
        refused(130, Rig.connect("x", 4, 0, NONE, Rig.properties(24, Rig.four(1), 24), "w", ""));
    }

    private static void moreThanFourHundred() {
        Check.about("149: more than 400 bytes follow.");
        Rig r = one();
        r.listen(0, "t", 0);
        int[] longest = Rig.publish(0, "t", 0, Rig.repeat("p", 396));
        Check.same("taken", 1, r.feed(0, longest));
        r.sends(0, longest);
        Check.same("taken", 0, r.feed(0, Rig.publish(0, "t", 0, Rig.repeat("p", 397))));
        r.closedWith(0, Rig.farewell(149));
    }

    private static void theFourthByteAsItComes() {
        Check.about("(The first VARIABLE is looked at as it comes: 129 with the fourth byte of 128 or more");
        Rig r = one();
        for (int b : new int[] {192, 128, 255, 128}) {
            Check.same("taken", 0, r.feed(0, b));
            Check.yes("open", r.broker.isOpen(0));
        }
        Check.same("pending", 4, r.broker.pending(0));
        r.feed(0, 128);
        r.closedWith(0, Rig.farewell(129));
        r = one();
        Check.same("a fourth below 128", 1, r.feed(0, 192, 128, 128, 128, 0));
        r.sends(0, new int[] {208, 0});
    }

    private static void theLengthWithItsLastByte() {
        Check.about("149 with its last byte");
        int[][] tooLong = {{145, 3}, {255, 127}, {128, 128, 1}, {255, 255, 127}, {128, 128, 128, 1},
            {255, 255, 255, 127}, {145, 131, 0}, {145, 131, 128, 0}};
        for (int[] variable : tooLong) {
            Rig r = one();
            r.feed(0, 48);
            for (int i = 0; i < variable.length; i++) {
                Check.yes("open", r.broker.isOpen(0));
                Check.same("taken", 0, r.feed(0, variable[i]));
            }
            r.closedWith(0, Rig.farewell(149));
        }
        for (int[] variable : new int[][] {{144, 3}, {144, 131, 0}, {144, 131, 128, 0}}) {
            Rig r = one();
            r.feed(0, Rig.join(48, variable));
            Check.yes("400 are not too many", r.broker.isOpen(0));
            Check.same("pending", 1 + variable.length, r.broker.pending(0));
        }
    }

    private static void suchAPacketIsNotTaken() {
        Check.about("such a packet is not taken.");
        Rig r = one();
        Check.same("taken", 1, r.feed(0, 192, 0, 192, 128, 128, 128, 128));
        r.told(2, 2);
        r.enter(0, "x", 9);
        Check.same("taken", 1, r.feed(0, 192, 0, 192, 145, 3));
        r.told(2, 4);
    }

    private static void allElseWhenItIsWhole() {
        Check.about("All else is looked at when the packet is whole");
        int[][] wrong = {{0, 2, 0, 0}, {255, 2, 0, 0}, {193, 2, 0, 0}, {16, 2, 0, 0}, {54, 3, 0, 1, 43},
            {50, 5, 0, 1, 43, 0, 0}};
        for (int[] packet : wrong) {
            for (int session = 0; session < 2; session++) {
                Rig r = new Rig();
                if (session == 1) {
                    r.enter(0, "x", 9);
                } else {
                    r.broker.open(0);
                }
                for (int i = 0; i < packet.length; i++) {
                    Check.yes("open", r.broker.isOpen(0));
                    Check.same("size", 0, r.broker.size(0));
                    Check.same("taken", i == packet.length - 1 ? 1 : 0, r.feed(0, packet[i]));
                }
                Check.yes("closed", !r.broker.isOpen(0));
            }
        }
    }

    private static void takenWhateverIsWrong() {
        Check.about("which is taken then, whatever is wrong");
        for (int[] packet : new int[][] {{0, 0}, {16, 0}, {54, 0}, {64, 2, 0, 0}, {130, 0}, {192, 1, 0}, {255, 0}}) {
            Rig r = one();
            Check.same("taken", 1, r.feed(0, packet));
            r.told(2, 2);
            Rig q = new Rig();
            q.broker.open(0);
            Check.same("taken", 1, q.feed(0, packet));
            q.told(2, 1);
        }
    }

    private static void typeBeforeFlags() {
        Check.about("first its type, then its flags");
        for (int type : new int[] {0, 1, 2, 9, 11, 13, 15}) {
            for (int flags = 0; flags < 16; flags++) {
                fault(130, Rig.packet(16 * type + flags));
            }
        }
    }

    private static void flagsBeforeAllElse() {
        Check.about("first its type, then its flags");
        fault(129, Rig.packet(65, Rig.two(0)));
        fault(129, Rig.packet(96, Rig.two(0)));
        fault(129, Rig.packet(128, Rig.two(0), 0));
        fault(129, Rig.packet(160, Rig.two(0), 0));
        fault(129, Rig.packet(54, "+", 0, 0));
        fault(129, Rig.packet(56, "+", 0));
        refused(129, Rig.packet(17, "XXXX", 5, 2, 0, 0, 0, "x"));
    }

    private static void disconnectIsSent() {
        Check.about("A FAULT: the broker sends DISCONNECT (224, 2, the fault, 0)");
        Rig r = one();
        int sent = r.broker.told(3);
        r.feed(0, 193, 0);
        r.closedWith(0, new int[] {224, 2, 129, 0});
        r.told(3, sent + 1);
        r.session(0, 0, -1);
        // Nor does a fault go on when there is no room to tell it.
        r = one();
        r.fill(0, 1998);
        r.feed(0, 193, 0);
        Check.yes("closed", !r.broker.isOpen(0));
        Check.same("size", 1998, r.broker.size(0));
        r = one();
        r.fill(0, 1996);
        r.feed(0, 193, 0);
        Check.same("size", 2000, r.broker.size(0));
    }

    private static void connackIsSent() {
        Check.about("or, when the connection has no session yet, a CONNACK (32, 3, 0, the fault, 0),"
                + " and the connection is LOST.");
        Rig r = new Rig();
        r.broker.open(0);
        r.feed(0, 17, 0);
        r.closedWith(0, new int[] {32, 3, 0, 129, 0});
        r.broker.open(0);
        r.feed(0, 16, 145, 3);
        r.closedWith(0, new int[] {32, 3, 0, 149, 0});
        r.broker.open(0);
        r.feed(0, 31, 128, 128, 128, 128);
        r.closedWith(0, new int[] {32, 3, 0, 129, 0});
        r.told(3, 3);
        r.told(0, 0);
    }

    private static void nothingIsSent() {
        Check.about("If the first packet is no CONNECT nothing is sent.");
        for (int type = 0; type < 16; type++) {
            if (type == 1) {
                continue;
            }
            Rig r = new Rig();
            r.broker.open(0);
            Check.same("taken", 1, r.feed(0, 16 * type, 0));
            r.closedWith(0);
            r.broker.open(0);
            Check.same("taken", 0, r.feed(0, 16 * type, 145, 3));
            r.closedWith(0);
            r.broker.open(0);
            Check.same("taken", 0, r.feed(0, 16 * type, 128, 128, 128, 128));
            r.closedWith(0);
            r.told(3, 0);
            r.told(2, 1);
        }
    }

    private static void typesThatAreNone() {
        Check.about("(Types 0, 2, 9, 11, 13 and 15: 130");
        for (int type : new int[] {0, 2, 9, 11, 13, 15}) {
            fault(130, Rig.packet(16 * type));
            fault(130, Rig.packet(16 * type + 2, Rig.two(1), 0, "a", 0));
        }
    }

    private static void aSecondConnect() {
        Check.about("and so is a CONNECT on a connection that has a session.)");
        fault(130, Rig.connect("x", 0, 0, Rig.expiry(9)));
        fault(130, Rig.connect("y", 2, 0, NONE));
        fault(130, Rig.packet(16));
        fault(130, Rig.packet(31, "XXXX"));
    }

    private static void thatConnectionAlone() {
        Check.about("What breaks the rules closes that connection alone.");
        Rig r = new Rig();
        for (int c = 0; c < 8; c++) {
            r.enter(c, "c" + c, 9);
        }
        r.feed(3, 0, 0);
        for (int c = 0; c < 8; c++) {
            Check.yes("open but for 3", r.broker.isOpen(c) == (c != 3));
            Check.same("size", c == 3 ? 4 : 0, r.broker.size(c));
        }
        r.told(0, 8);
    }
}
