import java.nio.ByteBuffer;
import java.nio.charset.CharacterCodingException;
import java.nio.charset.StandardCharsets;
import java.util.Arrays;

/** The edges of part 2 of the terms, BYTES: numbers, rows, topics and filters, a test for each sentence. */
public final class BytesEdgesTest {
    /** The bytes at which a rule of UTF-8 begins or ends. */
    private static final int[] TURNS = {0x00, 0x01, 0x7f, 0x80, 0x8f, 0x90, 0x9f, 0xa0, 0xbf, 0xc0, 0xc1, 0xc2, 0xdf,
        0xe0, 0xe1, 0xec, 0xed, 0xee, 0xef, 0xf0, 0xf1, 0xf3, 0xf4, 0xf5, 0xff};
    private static final int[] NONE = Rig.properties();
    private static Rig shared = new Rig();
    private static int uses;

    public static void main(String[] args) {
        twoHasTheHighestFirst();
        fourHasTheHighestFirst();
        variableHasTheLowestFirst();
        variableHasOneToFour();
        rowHasSoManyBytes();
        stringsOfOneAndTwoBytes();
        stringsOfThreeAndFourBytes();
        aStringHasNoZero();
        propertiesHaveSoManyBytes();
        bytesThatAreOneOrNone();
        valuesOfEachKey();
        eachOnce();
        aPacketHasSoManyBytes();
        topics();
        filters();
        levels();
        matchesAsManyLevels();
        matchesAllThatBeginsSo();
        matchesNoDollar();
        sharedOnes();
        Check.end();
    }

    /** A client "x" alone; what is wrong closes its connection, which the caller sees. */
    private static Rig one() {
        Rig r = new Rig();
        r.enter(0, "x", 99);
        return r;
    }

    private static void fault(int due, int[] packet) {
        Rig r = one();
        Check.same("taken", 1, r.feed(0, packet));
        if (due == 0) {
            Check.yes("it is no fault", r.broker.isOpen(0));
        } else {
            r.closedWith(0, Rig.farewell(due));
        }
    }

    private static void twoHasTheHighestFirst() {
        Check.about("TWO, FOUR: numbers of so many bytes, the highest first.");
        Rig r = one();
        r.feed(0, Rig.packet(50, "t", 1, 2, 0));
        r.sends(0, new int[] {64, 3, 1, 2, 16});
        r.feed(0, Rig.packet(50, "t", 255, 255, 0));
        r.sends(0, new int[] {64, 3, 255, 255, 16});
        r.feed(0, Rig.packet(50, "t", 1, 0, 0));
        r.sends(0, new int[] {64, 3, 1, 0, 16});
        r.enter(1, Rig.packet(16, "MQTT", 5, 2, 1, 2, Rig.properties(33, 3, 4), "y"));
        r.session(1, 7, 258);
        r.session(1, 8, 772);
    }

    private static void fourHasTheHighestFirst() {
        Check.about("TWO, FOUR: numbers of so many bytes, the highest first.");
        Rig r = new Rig();
        r.enter(0, Rig.connect("x", 2, 0, Rig.properties(17, 1, 2, 3, 4)));
        Check.same("EXPIRY", 16909060L, r.broker.expiry(0));
        r.enter(1, Rig.connect("y", 2, 0, Rig.properties(17, 255, 255, 255, 255)));
        Check.same("EXPIRY", 4294967295L, r.broker.expiry(1));
        r.enter(2, Rig.connect("z", 2, 0, Rig.properties(17, 128, 0, 0, 0)));
        Check.same("EXPIRY", 2147483648L, r.broker.expiry(2));
        r.listen(2, "t", 0);
        r.feed(0, Rig.publish(0, "t", 0, Rig.properties(2, 254, 253, 252, 251), ""));
        r.sends(2, Rig.publish(0, "t", 0, Rig.properties(2, 254, 253, 252, 251), ""));
    }

    private static void variableHasTheLowestFirst() {
        Check.about("VARIABLE: one to four bytes, the lowest seven bits first; all but the last one have 128 more.");
        int[][] told = {{1}, {127}, {128, 1}, {255, 127}, {128, 128, 1}, {255, 255, 127}, {128, 128, 128, 1},
            {255, 255, 255, 127}, {172, 2}};
        int[] due = {1, 127, 128, 16383, 16384, 2097151, 2097152, 268435455, 300};
        for (int i = 0; i < due.length; i++) {
            Rig r = one();
            r.feed(0, Rig.packet(130, Rig.two(1), Rig.properties(11, told[i]), "t", 0));
            r.broker.take(0, 99);
            Check.same("IDENTIFIER", due[i], r.broker.subscription(0, 0, 1));
            r.feed(0, Rig.publish(0, "t", 0, "p"));
            r.sends(0, Rig.publish(0, "t", 0, Rig.properties(11, told[i]), "p"));
        }
    }

    private static void variableHasOneToFour() {
        Check.about("VARIABLE: one to four bytes");
        Rig r = one();
        // It need not be as short as it can be; what is sent is.
        r.feed(0, Rig.packet(130, Rig.two(1), Rig.properties(11, 133, 128, 128, 0), "t", 0));
        r.sends(0, Rig.suback(1, 0));
        Check.same("IDENTIFIER", 5, r.broker.subscription(0, 0, 1));
        r.feed(0, Rig.packet(48, "t", 128, 128, 128, 0, 112));
        r.sends(0, Rig.publish(0, "t", 0, Rig.properties(11, 5), "p"));
        fault(129, Rig.packet(130, Rig.two(1), Rig.properties(11, 133, 128, 128, 128, 0), "t", 0));
        fault(129, Rig.packet(48, "t", 128, 128, 128, 128, 0));
        // Nor need that of a packet: the longest one has a byte, four, and 400.
        int[] body = Rig.join("t", NONE, Rig.raw(Rig.repeat("p", 396)));
        Check.same("bytes", 400, body.length);
        Check.same("taken", 1, r.feed(0, Rig.join(48, 144, 131, 128, 0, body)));
        r.sends(0, Rig.publish(0, "t", 0, Rig.properties(11, 5), Rig.repeat("p", 396)));
        Check.same("pending", 0, r.broker.pending(0));
    }

    private static void rowHasSoManyBytes() {
        Check.about("ROW: a TWO, and so many bytes.");
        for (int length : new int[] {0, 1, 255, 256, 300}) {
            Rig r = one();
            r.listen(0, "t", 0);
            String bytes = Rig.repeat("\u0000", length);
            int[] properties = Rig.properties(9, Rig.two(length), Rig.raw(bytes));
            r.feed(0, Rig.publish(0, "t", 0, properties, "p"));
            r.sends(0, Rig.publish(0, "t", 0, properties, "p"));
        }
        fault(129, Rig.publish(0, "t", 0, Rig.properties(9, Rig.two(3), 1, 2), "p"));
        fault(129, Rig.publish(0, "t", 0, Rig.properties(9, 0), "p"));
    }

    /** Whether the text may be a STRING, by the Java library's own strict reader. */
    private static boolean isText(int... bytes) {
        byte[] all = new byte[bytes.length];
        for (int i = 0; i < all.length; i++) {
            all[i] = (byte) bytes[i];
        }
        try {
            return StandardCharsets.UTF_8.newDecoder().decode(ByteBuffer.wrap(all)).toString().indexOf(0) < 0;
        } catch (CharacterCodingException e) {
            return false;
        }
    }

    /** Property 3 is a STRING without any further rule: a PUBLISH with it is fine, or 129. */
    private static void string(int... bytes) {
        // A broker is used for 512 calls at most, and a text needs some twelve of them.
        if (uses % 40 == 0) {
            shared = new Rig();
        }
        uses++;
        if (!shared.broker.isOpen(0)) {
            shared.broker.open(0);
            shared.broker.feed(0, 0x5454514D04000D10L, 0x0000000000000205L, 15);
            shared.broker.take(0, 99);
        }
        shared.feed(0, Rig.publish(0, "t", 0, Rig.properties(3, Rig.two(bytes.length), bytes), ""));
        boolean due = isText(bytes);
        boolean taken = shared.broker.isOpen(0) && shared.broker.size(0) == 0;
        if (due != taken || !taken && shared.broker.out(0, 2) != 129) {
            Check.same("STRING " + Arrays.toString(bytes), due ? "fine" : "129", taken ? "fine" : "other");
        }
    }

    private static void stringsOfOneAndTwoBytes() {
        Check.about("STRING: a ROW that is UTF-8 (each character as short as it can be");
        for (int a = 0; a < 256; a++) {
            string(a);
            for (int b = 0; b < 256; b++) {
                string(a, b);
            }
        }
        Check.yes("a short one is a text", isText(0xc2, 0x80) && !isText(0xc1, 0xbf));
    }

    private static void stringsOfThreeAndFourBytes() {
        Check.about("up to 10FFFF, none of D800 .. DFFF");
        for (int a : TURNS) {
            for (int b : TURNS) {
                for (int c : TURNS) {
                    string(a, b, c);
                    for (int d : TURNS) {
                        if (a >= 0xe0) {
                            string(a, b, c, d);
                        }
                    }
                }
            }
        }
        fault(0, Rig.publish(0, "t", 0, Rig.properties(3, "\u00ed\u009f\u00bf"), ""));
        fault(129, Rig.publish(0, "t", 0, Rig.properties(3, "\u00ed\u00a0\u0080"), ""));
        fault(129, Rig.publish(0, "t", 0, Rig.properties(3, "\u00ed\u00bf\u00bf"), ""));
        fault(0, Rig.publish(0, "t", 0, Rig.properties(3, "\u00ee\u0080\u0080"), ""));
        fault(0, Rig.publish(0, "t", 0, Rig.properties(3, "\u00f4\u008f\u00bf\u00bf"), ""));
        fault(129, Rig.publish(0, "t", 0, Rig.properties(3, "\u00f4\u0090\u0080\u0080"), ""));
    }

    private static void aStringHasNoZero() {
        Check.about("none 0");
        for (String text : new String[] {"\u0000", "a\u0000", "\u0000a", "a\u0000a"}) {
            fault(129, Rig.publish(0, "t", 0, Rig.properties(3, text), ""));
            fault(129, Rig.publish(0, text, 0, ""));
            fault(129, Rig.subscribe(1, text, 0));
            // A ROW and a payload may have it.
            fault(0, Rig.publish(0, "t", 0, Rig.properties(9, text), text));
        }
    }

    private static void propertiesHaveSoManyBytes() {
        Check.about("PROPERTIES: a VARIABLE, how many bytes they have, and these");
        Rig r = one();
        r.listen(0, "t", 0);
        // What is behind them is the payload, though it looks like a property.
        r.feed(0, Rig.packet(48, "t", 0, 1, 1));
        r.sends(0, Rig.packet(48, "t", 0, 1, 1));
        r.feed(0, Rig.packet(48, "t", 2, 1, 1, 1, 1));
        r.sends(0, Rig.packet(48, "t", 2, 1, 1, 1, 1));
        for (int length : new int[] {127, 128}) {
            int[] properties = Rig.properties(9, Rig.repeat("c", length - 3));
            Check.same("bytes", length + (length < 128 ? 1 : 2), properties.length);
            r.feed(0, Rig.publish(0, "t", 0, properties, "p"));
            r.sends(0, Rig.publish(0, "t", 0, properties, "p"));
        }
    }

    private static void bytesThatAreOneOrNone() {
        Check.about("for the keys 1, 23, 25 a byte that is 0 or 1");
        for (int b : new int[] {0, 1, 2, 128, 255}) {
            fault(b > 1 ? 129 : 0, Rig.publish(0, "t", 0, Rig.properties(1, b), ""));
            for (int key : new int[] {23, 25}) {
                Rig r = new Rig();
                r.broker.open(0);
                r.feed(0, Rig.connect("x", 2, 0, Rig.properties(key, b)));
                r.sends(0, b > 1 ? Rig.refusal(129) : Rig.connack(false));
            }
        }
    }

    private static void valuesOfEachKey() {
        Check.about("2, 17, 24, 39 a FOUR; 3, 8, 21, 31 a STRING; 9, 22 a ROW; 11 a VARIABLE; 33, 34, 35 a TWO;"
                + " 38 two STRINGs");
        int[] text = Rig.string("ab");
        Object[][] values = {{2, Rig.four(9)}, {3, text}, {8, text}, {9, text}, {35, Rig.two(1)}, {38, text, text}};
        for (Object[] value : values) {
            exactly(0, 48, Rig.join("t"), Rig.join(value), new int[0]);
        }
        for (Object[] value : new Object[][] {{31, text}, {38, text, text}}) {
            exactly(0, 64, Rig.join(0, 1, 0), Rig.join(value), new int[0]);
        }
        exactly(0, 130, Rig.two(1), Rig.join(11, 255, 1), Rig.join("t", 0));
        exactly(0, 224, Rig.join(0), Rig.join(17, Rig.four(9)), new int[0]);
        int[] head = Rig.join("MQTT", 5, 2, 0, 0);
        int[] will = Rig.join("MQTT", 5, 4, 0, 0, 0, "x");
        for (Object[] value : new Object[][] {{17, Rig.four(9)}, {33, Rig.two(9)}, {34, Rig.two(9)},
            {39, Rig.four(9)}, {38, text, text}}) {
            exactly(1, 16, head, Rig.join(value), Rig.string("x"));
        }
        exactly(140, 16, head, Rig.join(21, text), Rig.string("x"));
        exactly(140, 16, head, Rig.join(21, 0, 0, 22, text), Rig.string("x"));
        exactly(1, 16, will, Rig.join(24, Rig.four(9)), Rig.join("w", ""));
    }

    /** The properties are right as they are, and wrong with a byte less; due 1: a CONNECT is let in. */
    private static void exactly(int due, int first, int[] before, int[] value, int[] behind) {
        int[] cut = Arrays.copyOf(value, value.length - 1);
        for (int step = 0; step < 2; step++) {
            int[] properties = Rig.properties(step == 0 ? value : cut);
            Rig r = first == 16 ? new Rig() : one();
            if (first == 16) {
                r.broker.open(0);
            }
            r.feed(0, Rig.packet(first, before, properties, behind));
            int[] fine = due == 1 ? Rig.connack(false) : due == 140 ? Rig.refusal(140)
                    : first == 130 ? Rig.suback(1, 0) : new int[0];
            r.sends(0, step == 0 ? fine : first == 16 ? Rig.refusal(129) : Rig.farewell(129));
        }
    }

    private static void eachOnce() {
        Check.about("Each packet names those that it may have, each once, 38 any number of times.");
        int[] user = Rig.join(38, "", "");
        int[] many = {};
        for (int i = 0; i < 79; i++) {
            many = Rig.join(many, user);
        }
        Rig r = one();
        r.listen(0, "t", 0);
        r.feed(0, Rig.publish(0, "t", 0, Rig.properties(many), ""));
        Check.yes("79 times", r.broker.isOpen(0));
        r.sends(0, Rig.publish(0, "t", 0, Rig.properties(many), ""));
        Object[][] once = {{1, 0}, {2, Rig.four(0)}, {3, ""}, {8, "r"}, {9, ""}, {35, Rig.two(1)}};
        for (Object[] value : once) {
            int[] bytes = Rig.join(value);
            fault(0, Rig.publish(0, "t", 0, Rig.properties(bytes, user, user), ""));
            fault(130, Rig.publish(0, "t", 0, Rig.properties(bytes, user, bytes), ""));
        }
    }

    private static void aPacketHasSoManyBytes() {
        Check.about("A PACKET: a byte (16 times its type, and flags), a VARIABLE, how many bytes follow, and these.");
        Rig r = one();
        Check.same("none follows", 2, r.feed(0, 192, 0, 192, 0));
        r.sends(0, new int[] {208, 0, 208, 0});
        r.listen(0, "t", 0);
        for (int following : new int[] {127, 128}) {
            int[] publish = Rig.publish(0, "t", 0, Rig.repeat("p", following - 4));
            Check.same("bytes", following + (following < 128 ? 2 : 3), publish.length);
            Check.same("taken", 1, r.feed(0, publish));
            r.sends(0, publish);
        }
    }

    private static void topics() {
        Check.about("A TOPIC is a STRING of 1 to 64 bytes without + and #.");
        for (String topic : new String[] {"t", Rig.repeat("t", 64), "/", "$share/n/t", Rig.repeat("\u00c3\u00a4", 32)}) {
            fault(0, Rig.publish(0, topic, 0, ""));
        }
        for (String topic : new String[] {Rig.repeat("t", 65), "+", "#", "a/+", "a/#", "a+", "#b", "a+b",
            Rig.repeat("t", 63) + "+", Rig.repeat("t", 63) + "#", Rig.repeat("\u00c3\u00a4", 33)}) {
            fault(144, Rig.publish(0, topic, 0, ""));
        }
    }

    private static void subscribes(int reason, String told) {
        Rig r = one();
        r.feed(0, Rig.subscribe(1, told, 0));
        r.sends(0, Rig.suback(1, reason));
        r.session(0, 1, reason == 0 ? 1 : 0);
    }

    private static void filters() {
        Check.about("A FILTER is one of 1 to 64 bytes that does not begin with $share/");
        subscribes(143, "");
        subscribes(0, "f");
        subscribes(0, Rig.repeat("f", 64));
        subscribes(143, Rig.repeat("f", 65));
        subscribes(143, "$share/");
        subscribes(143, "$share/a");
        subscribes(0, "$share");
        subscribes(0, "$shar/e/a");
        subscribes(0, "$share\u00c3\u00a4/a/#");
        subscribes(0, "Xshare/n");
        subscribes(0, "/$share/n");
    }

    private static void levels() {
        Check.about("whose LEVELS (between the /) are each +, or without + and #; the last one may be # instead.");
        for (String filter : new String[] {"+", "#", "+/+", "+/#", "/", "//", "/+", "+/", "/#", "a/+/b", "a/b/#", "/+/#",
            "+/+/+/+"}) {
            subscribes(0, filter);
            subscribes(0, "$share/n/" + filter);
        }
        for (String filter : new String[] {"a+", "+a", "++", "a#", "#a", "##", "+#", "#+", "#/", "#/a", "a/#/", "a/#/b",
            "a/+b", "a/b+/c", "+a/b", "a/#b", "a/b#", "#/#", "+/a+"}) {
            subscribes(143, filter);
            subscribes(143, "$share/n/" + filter);
        }
    }

    private static void matches(boolean due, String filter, String topic) {
        Rig r = one();
        r.feed(0, Rig.subscribe(1, filter, 0));
        r.broker.take(0, 99);
        r.feed(0, Rig.publish(2, topic, 1, ""));
        r.sends(0, due ? Rig.publish(0, topic, 0, "") : new int[0], due ? Rig.answer(64, 1) : Rig.answer(64, 1, 16));
    }

    private static void matchesAsManyLevels() {
        Check.about("It MATCHES a topic with as many levels, each the same or +");
        matches(true, "a/b/c", "a/b/c");
        matches(false, "a/b", "a/b/c");
        matches(false, "a/b/c", "a/b");
        matches(true, "+/+/+", "a/b/c");
        matches(false, "+/+", "a/b/c");
        matches(false, "+/+/+", "a/b");
        matches(true, "+/+", "/");
        matches(false, "+", "/");
        matches(true, "a/+", "a/");
        matches(false, "a/+", "a");
        matches(false, "a/", "a");
        matches(false, "a", "a/");
        matches(true, "+/b", "/b");
        matches(false, "ab", "a");
        matches(false, "a", "ab");
        matches(false, "b", "a");
        matches(true, Rig.repeat("f", 64), Rig.repeat("f", 64));
        matches(false, Rig.repeat("f", 64), Rig.repeat("f", 63) + "g");
    }

    private static void matchesAllThatBeginsSo() {
        Check.about("with # all that begins so, also what lacks the # and the / before it");
        matches(true, "#", "a");
        matches(true, "#", "/");
        matches(true, "#", "a/b/c");
        matches(true, "a/#", "a/b");
        matches(true, "a/#", "a/b/c/d");
        matches(true, "a/#", "a/");
        matches(true, "a/#", "a");
        matches(false, "a/#", "ab");
        matches(false, "a/#", "b/a");
        matches(true, "+/#", "a");
        matches(true, "+/#", "/");
        matches(true, "a/+/#", "a/b");
        matches(false, "a/+/#", "a");
        matches(false, "a/b/#", "a");
        matches(true, "/#", "/");
        matches(true, "/#", "/a");
        matches(false, "/#", "a");
    }

    private static void matchesNoDollar() {
        Check.about("but no topic whose first byte is $ if its own first one is + or #");
        matches(false, "#", "$a");
        matches(false, "+", "$a");
        matches(false, "+/b", "$a/b");
        matches(false, "+/#", "$");
        matches(false, "$share/n/#", "$a");
        matches(false, "$share/n/+", "$a");
        matches(true, "$a", "$a");
        matches(true, "$a/#", "$a/b");
        matches(true, "$a/+", "$a/b");
        matches(true, "a/+", "a/$b");
        matches(true, "#", "a/$b");
        matches(true, "/+", "/$b");
        matches(true, "$share/n/$a", "$a");
    }

    private static void sharedOnes() {
        Check.about("SHARED is $share/, a NAME of one byte or more without + # /, then / and a FILTER"
                + " (64 bytes in all at most).");
        subscribes(0, "$share/n/f");
        subscribes(143, "$share//f");
        subscribes(143, "$share/n");
        subscribes(143, "$share/n/");
        subscribes(0, "$share/n//");
        subscribes(143, "$share/+/f");
        subscribes(143, "$share/#/f");
        subscribes(143, "$share/n+/f");
        subscribes(143, "$share/#n/f");
        subscribes(0, "$share/" + Rig.repeat("n", 55) + "/f");
        subscribes(143, "$share/" + Rig.repeat("n", 56) + "/f");
        subscribes(0, "$share/n/" + Rig.repeat("f", 55));
        subscribes(143, "$share/n/" + Rig.repeat("f", 56));
        subscribes(143, "$share/n/$share/m/f");
        subscribes(143, "$share/n/$share/");
        subscribes(0, "$share/n/$share");
        subscribes(0, "$share/$/#");
        // A NAME is no part of the FILTER.
        matches(true, "$share/n/f", "f");
        matches(false, "$share/n/f", "n/f");
        matches(false, "$share/n/f", "$share/n/f");
    }
}
