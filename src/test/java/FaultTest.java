/** Promise 3, part 3 of the terms: which fault a packet has, and what is answered to it. */
public final class FaultTest {
    /** Each row of bytes is a character: as short as it can be, of one to four bytes. */
    private static final String[] GOOD = {"", "\u0001", "\u007f", "\u00c2\u0080", "\u00df\u00bf",
        "\u00e0\u00a0\u0080", "\u00ed\u009f\u00bf", "\u00ee\u0080\u0080", "\u00ef\u00bf\u00bf",
        "\u00f0\u0090\u0080\u0080", "\u00f4\u008f\u00bf\u00bf", "\u00e1\u0080\u0080a", "\u00ec\u00bf\u0080"};
    private static final String[] BAD = {"\u0000", "a\u0000", "\u0080", "\u0080\u0080", "\u00bf", "\u00c0\u0080",
        "\u00c1\u00bf", "\u00c2", "\u00c2a", "\u00c2\u00c0", "\u00c2\u007f", "\u00e0\u009f\u00bf",
        "\u00e1\u0080", "\u00e1\u0080a", "\u00e1\u007f\u0080", "\u00ed\u00a0\u0080",
        "\u00ed\u00bf\u00bf", "\u00f0\u008f\u00bf\u00bf", "\u00f0\u0090\u0080", "\u00f4\u0090\u0080\u0080",
        "\u00f5\u0080\u0080\u0080", "\u00ff", "\u00f1\u0080\u0080\u00c0", "\u00f1\u0080\u00c0\u0080"};

    public static void main(String[] args) {
        typesThatAreNone();
        firstPacketIsNoConnect();
        secondConnect();
        flagsOfPackets();
        stringsAreUtf8();
        propertiesOfPublish();
        keysOfEachPacket();
        endsWithinValues();
        answersOfClients();
        pingAndDisconnect();
        theFirstFaultCounts();
        faultyPacketsAreTaken();
        aFaultClosesThatOneAlone();
        propertiesOfOthersAreForgotten();
        Check.end();
    }

    /** On a connection with a session this packet is that fault; 0: it is none. */
    private static void fault(int due, int[] packet) {
        Rig r = new Rig();
        r.enter(0, "x", 9);
        int sent = r.broker.told(3);
        Check.same("taken", 1, r.feed(0, packet));
        if (due == 0) {
            Check.yes("it is no fault", r.broker.isOpen(0));
        } else {
            r.closedWith(0, Rig.farewell(due));
            r.told(3, sent + 1);
        }
        r.told(2, 2);
    }

    private static void typesThatAreNone() {
        for (int type : new int[] {0, 2, 9, 11, 13, 15}) {
            for (int flags = 0; flags < 16; flags += 5) {
                fault(130, new int[] {16 * type + flags, 0});
            }
        }
    }

    private static void firstPacketIsNoConnect() {
        for (int type = 0; type < 16; type++) {
            if (type == 1) {
                continue;
            }
            Rig r = new Rig();
            r.broker.open(4);
            Check.same("taken", 1, r.feed(4, 16 * type, 0));
            r.closedWith(4);
            r.told(2, 1);
            r.told(3, 0);
        }
    }

    private static void secondConnect() {
        fault(130, Rig.connect("x", 2, 0, Rig.properties()));
        fault(130, new int[] {31, 0});
    }

    private static void flagsOfPackets() {
        int[][] fit = {Rig.answer(64, 1), Rig.answer(80, 1), Rig.answer(98, 1), Rig.answer(112, 1),
            Rig.subscribe(1, "a", 0), Rig.unsubscribe(1, "a"), {192, 0}, {224, 0}};
        for (int[] packet : fit) {
            for (int flags = 0; flags < 16; flags++) {
                if (flags != (packet[0] & 15)) {
                    int[] other = packet.clone();
                    other[0] = packet[0] & 240 | flags;
                    fault(129, other);
                }
            }
        }
        for (int flags = 0; flags < 16; flags++) {
            int quality = flags >> 1 & 3;
            boolean bad = quality == 3 || quality == 0 && flags >= 8;
            fault(bad ? 129 : 0, Rig.publish(flags, "t", 9, "p"));
        }
        for (int flags = 1; flags < 16; flags++) {
            Rig r = new Rig();
            r.broker.open(0);
            int[] connect = Rig.connect("x", 2, 0, Rig.properties());
            connect[0] = 16 + flags;
            r.feed(0, connect);
            r.closedWith(0, Rig.refusal(129));
        }
    }

    private static void stringsAreUtf8() {
        for (String text : GOOD) {
            fault(text.isEmpty() ? 130 : 0, Rig.publish(0, text, 0, ""));
            fault(0, Rig.publish(0, "t", 0, Rig.properties(38, text, text), ""));
            fault(0, Rig.publish(0, "t", 0, Rig.properties(3, text), ""));
            fault(0, Rig.subscribe(1, text, 0));
        }
        for (String text : BAD) {
            fault(129, Rig.publish(0, text, 0, ""));
            fault(129, Rig.publish(0, "t", 0, Rig.properties(38, text, ""), ""));
            fault(129, Rig.publish(0, "t", 0, Rig.properties(38, "", text), ""));
            fault(129, Rig.publish(0, "t", 0, Rig.properties(8, text), ""));
            fault(129, Rig.publish(0, "t", 0, Rig.properties(3, text), ""));
            fault(129, Rig.packet(64, Rig.two(1), 0, Rig.properties(31, text)));
            fault(0, Rig.publish(0, "t", 0, Rig.properties(9, text), text));
            fault(129, Rig.subscribe(1, text, 0));
            fault(129, Rig.unsubscribe(1, "a", text));
        }
    }

    private static void propertiesOfPublish() {
        fault(0, Rig.publish(0, "t", 0, Rig.properties(1, 1, 2, Rig.four(9), 3, "s", 8, "r", 9, "c", 35,
                Rig.two(1), 38, "k", "v", 38, "k", "v"), "p"));
        for (int b = 0; b < 4; b++) {
            fault(b > 1 ? 129 : 0, Rig.publish(0, "t", 0, Rig.properties(1, b), "p"));
        }
        fault(129, Rig.publish(0, "t", 0, Rig.properties(1, 255), "p"));
        Object[][] once = {{1, 0}, {2, Rig.four(9)}, {3, "s"}, {8, "r"}, {9, "c"}, {35, Rig.two(1)}};
        for (Object[] one : once) {
            int[] bytes = Rig.join(one);
            fault(0, Rig.publish(0, "t", 0, Rig.properties(bytes), "p"));
            fault(130, Rig.publish(0, "t", 0, Rig.properties(bytes, bytes), "p"));
            fault(130, Rig.publish(0, "t", 0, Rig.properties(bytes, bytes[0]), "p"));
        }
        fault(130, Rig.publish(0, "t", 0, Rig.properties(8, ""), "p"));
        fault(130, Rig.publish(0, "t", 0, Rig.properties(8, "a/+"), "p"));
        fault(130, Rig.publish(0, "t", 0, Rig.properties(8, "#"), "p"));
        fault(130, Rig.publish(0, "t", 0, Rig.properties(8, Rig.repeat("r", 65)), "p"));
        fault(0, Rig.publish(0, "t", 0, Rig.properties(8, Rig.repeat("r", 64)), "p"));
        // The length of the properties may be longer than it has to be, up to four bytes.
        fault(0, Rig.packet(48, "t", 128, 128, 128, 0, 1));
        fault(129, Rig.packet(48, "t", 128, 128, 128, 128, 0));
        fault(129, Rig.packet(48, "t", 3, 1, 0));
        fault(129, Rig.packet(48, "t"));
        fault(129, Rig.packet(48, "t", 128));
    }

    private static void keysOfEachPacket() {
        for (int key = 0; key < 256; key++) {
            boolean message = key == 1 || key == 2 || key == 3 || key == 8 || key == 9 || key == 38;
            // A key that may be is at fault by its missing value, any other by itself.
            fault(message || key == 35 ? 129 : 130, Rig.publish(0, "t", 0, Rig.properties(key), ""));
            boolean answer = key == 31 || key == 38;
            fault(answer ? 129 : 130, Rig.packet(64, Rig.two(1), 0, Rig.properties(key)));
            fault(answer ? 129 : 130, Rig.packet(80, Rig.two(1), 0, Rig.properties(key)));
            fault(answer ? 129 : 130, Rig.packet(98, Rig.two(1), 0, Rig.properties(key)));
            fault(answer ? 129 : 130, Rig.packet(112, Rig.two(1), 0, Rig.properties(key)));
            fault(key == 11 || key == 38 ? 129 : 130,
                    Rig.packet(130, Rig.two(1), Rig.properties(key), "a", 0));
            fault(key == 38 ? 129 : 130, Rig.packet(162, Rig.two(1), Rig.properties(key), "a"));
            fault(answer || key == 17 ? 129 : 130, Rig.packet(224, 0, Rig.properties(key)));
        }
    }

    private static void endsWithinValues() {
        int[] value = Rig.join(1, 1, 2, Rig.four(9), 3, "s", 8, "r", 9, "c", 35, Rig.two(1), 38, "k", "v");
        int[] whole = Rig.publish(2, "topic", 7, Rig.properties(value), "");
        int[] starts = {0, 2, 7, 11, 15, 19, 22, 29};
        for (int length = 0; length < whole.length - 2; length++) {
            int[] body = new int[length];
            System.arraycopy(whole, 2, body, 0, length);
            fault(129, Rig.packet(50, body));
        }
        for (int length = 0; length <= value.length; length++) {
            int[] part = new int[length];
            System.arraycopy(value, 0, part, 0, length);
            boolean between = false;
            for (int start : starts) {
                between |= start == length;
            }
            // Behind them stands what a value could go on with, if it went beyond its properties.
            fault(between ? 0 : 129, Rig.publish(0, "t", 0, Rig.properties(part), "\u0000\u0001aaaa"));
        }
        fault(129, Rig.packet(130, Rig.two(1), Rig.properties(11), "a", 0));
        fault(129, Rig.packet(130, Rig.two(1), Rig.properties(11, 128, 128, 128, 128, 1), "a", 0));
        fault(0, Rig.packet(130, Rig.two(1), Rig.properties(11, 255, 255, 255, 127), "a", 0));
        fault(129, Rig.packet(130, Rig.two(1), 0, "a"));
        fault(129, Rig.packet(130, Rig.two(1), 0, "a", 0, 0));
        fault(129, Rig.packet(130, Rig.two(1), 0, Rig.two(2), 97));
        fault(129, Rig.packet(130, 1));
        fault(129, Rig.packet(130, Rig.two(1)));
        fault(129, Rig.packet(162, Rig.two(1), 0, 0));
    }

    private static void answersOfClients() {
        for (int first : new int[] {64, 80, 98, 112}) {
            fault(0, Rig.packet(first, Rig.two(5)));
            fault(0, Rig.packet(first, Rig.two(5), 0));
            fault(0, Rig.packet(first, Rig.two(5), 255, 0));
            fault(0, Rig.packet(first, Rig.two(5), 0, Rig.properties(31, "why", 38, "a", "b", 38, "a", "b")));
            fault(130, Rig.packet(first, Rig.two(5), 0, Rig.properties(31, "why", 31, "why")));
            fault(130, Rig.packet(first, Rig.two(0)));
            fault(129, Rig.packet(first));
            fault(129, Rig.packet(first, 5));
            fault(129, Rig.packet(first, Rig.two(5), 0, 0, 0));
            fault(129, Rig.packet(first, Rig.two(5), 0, 1));
        }
    }

    private static void pingAndDisconnect() {
        fault(0, new int[] {192, 0});
        fault(129, new int[] {192, 1, 0});
        fault(129, Rig.packet(224, 0, 0, 0));
        fault(129, Rig.packet(224, 0, Rig.properties(17, 0, 0, 0)));
        fault(130, Rig.packet(224, 0, Rig.properties(17, Rig.four(1), 17, Rig.four(1))));
    }

    private static void theFirstFaultCounts() {
        // A bad topic stands before the number 0, and this before the properties.
        fault(144, Rig.publish(2, "a+", 0, Rig.properties(1, 7), ""));
        fault(130, Rig.publish(2, "a", 0, Rig.properties(1, 7), ""));
        fault(129, Rig.publish(2, "a", 1, Rig.properties(1, 7, 99), ""));
        fault(130, Rig.publish(2, "a", 1, Rig.properties(99, 1, 7), ""));
        // What is looked at behind the properties: their own faults come first; 8 before ALIAS.
        fault(129, Rig.publish(0, "a", 0, Rig.properties(8, "+", 35, 0, 9, 1, 7), ""));
        fault(130, Rig.publish(0, "a", 0, Rig.properties(35, 0, 9, 8, "+"), ""));
        fault(148, Rig.publish(0, "", 0, Rig.properties(35, 0, 0, 8, "r"), ""));
        fault(129, Rig.packet(54, "a+", 0, 0));
        fault(130, Rig.packet(130, Rig.two(0), Rig.properties(99)));
        fault(130, Rig.packet(130, Rig.two(1), Rig.properties(11, 0), "a", 64));
        fault(129, Rig.packet(130, Rig.two(1), Rig.properties(11, 0, 38), "a", 64));
        fault(129, Rig.packet(130, Rig.two(1), 0, "a", 67, "b", 3));
        fault(130, Rig.packet(130, Rig.two(1), 0, "a", 3, "b", 64));
    }

    private static void faultyPacketsAreTaken() {
        Rig r = new Rig();
        r.enter(0, "x", 9);
        Check.same("taken", 2, r.feed(0, 192, 0, 193, 0, 192, 0));
        r.closedWith(0, new int[] {208, 0}, Rig.farewell(129));
        r.told(2, 3);
        r.told(3, 3);
    }

    private static void aFaultClosesThatOneAlone() {
        Rig r = new Rig();
        r.enter(0, "x", 9);
        r.enter(1, "y", 9);
        r.feed(0, 0, 0);
        Check.yes("0 is closed", !r.broker.isOpen(0));
        Check.yes("1 is open", r.broker.isOpen(1));
        r.told(0, 2);
    }

    private static void propertiesOfOthersAreForgotten() {
        Rig r = new Rig();
        r.enter(0, "x", 0);
        r.enter(1, "y", 9);
        r.feed(0, 224, 0);
        r.closedWith(0);
        r.feed(1, Rig.publish(0, "t", 0, Rig.properties(8, "+"), ""));
        r.closedWith(1, Rig.farewell(130));
        r.enter(1, "y", 9);
        r.feed(1, Rig.publish(0, "t", 0, ""));
        Check.yes("open", r.broker.isOpen(1));
    }
}
