import java.util.Arrays;

/** The edges of part 7 of the terms, SUBSCRIBE, UNSUBSCRIBE, and the rest, a test for each sentence. */
public final class SubscribeEdgesTest {
    public static void main(String[] args) {
        numberNone();
        identifierNone();
        onceOrMore();
        otherOptions();
        qualityOrHandlingThree();
        noLocalWithShare();
        behindAll();
        neitherFilterNorShared();
        theNinth();
        inThePlaceOfTheSame();
        theReasonIsTheQuality();
        suback();
        handlingNone();
        handlingOne();
        handlingTwo();
        handlingOfEachEntry();
        notThoseThatWereNotTaken();
        notThoseThatAreShared();
        allRetainedInTheirOrder();
        retainedAsInSix();
        byTheOptionsThatItHasThen();
        noLocalDoesNotMatter();
        unsubscribeNumberNone();
        unsubscribeOnceOrMore();
        unsubscribeReasons();
        ping();
        disconnectOfNothing();
        disconnectWithExpiry();
        disconnectWithExpiryOfNone();
        disconnectAndTheWill();
        lostWithoutAPacket();
        Check.end();
    }

    private static Rig one() {
        Rig r = new Rig();
        r.enter(0, "x", 99);
        return r;
    }

    private static void fault(int due, int[] packet) {
        Rig r = one();
        r.listen(0, "here", 0);
        Check.same("taken", 1, r.feed(0, packet));
        if (due == 0) {
            Check.yes("it is no fault", r.broker.isOpen(0));
        } else {
            r.closedWith(0, Rig.farewell(due));
            r.session(0, 1, 1);
            Check.same("it is still there", "here", r.filterOf(0, 0));
        }
    }

    /** A client "x" on 0, when "a" .. "c" are RETAINED with these qualities. */
    private static Rig withRetained(int... qualities) {
        Rig r = one();
        for (int i = 0; i < qualities.length; i++) {
            r.feed(0, Rig.publish(qualities[i] << 1 | 1, "abc".substring(i, i + 1), 9 + i, "p" + i));
        }
        r.broker.take(0, 99);
        return r;
    }

    private static void numberNone() {
        Check.about("SUBSCRIBE: TWO (0: 130)");
        fault(130, Rig.subscribe(0, "a", 0));
        fault(130, Rig.packet(130, Rig.two(0), Rig.properties(11, 128, 128, 128, 128), "a", 0));
        fault(0, Rig.subscribe(1, "a", 0));
        fault(0, Rig.subscribe(65535, "a", 0));
    }

    private static void identifierNone() {
        Check.about("properties 11 (IDENTIFIER; 0: 130, behind them), 38");
        fault(130, Rig.packet(130, Rig.two(1), Rig.properties(11, 0), "a", 0));
        fault(130, Rig.packet(130, Rig.two(1), Rig.properties(11, 128, 128, 0), "a", 0));
        fault(129, Rig.packet(130, Rig.two(1), Rig.properties(11, 0, 38, "\u00ff", ""), "a", 0));
        fault(130, Rig.packet(130, Rig.two(1), Rig.properties(11, 0), "a", 64));
        fault(130, Rig.packet(130, Rig.two(1), Rig.properties(11, 0), "\u00ff", 0));
        fault(0, Rig.packet(130, Rig.two(1), Rig.properties(11, 1, 38, "", "", 38, "", ""), "a", 0));
        fault(0, Rig.packet(130, Rig.two(1), Rig.properties(11, 255, 255, 255, 127), "a", 0));
        fault(0, Rig.packet(130, Rig.two(1), Rig.properties(), "a", 0));
    }

    private static void onceOrMore() {
        Check.about("once or more (130 if there is none): STRING, and OPTIONS, a byte");
        fault(130, Rig.packet(130, Rig.two(1), 0));
        fault(130, Rig.packet(130, Rig.two(1), Rig.properties(11, 5)));
        fault(0, Rig.subscribe(1, "a", 0));
        fault(129, Rig.subscribe(1, "a"));
        // As many as a packet can have: 132 with an empty STRING.
        Rig r = one();
        int[] entries = {};
        int[] reasons = {};
        for (int i = 0; i < 132; i++) {
            entries = Rig.join(entries, "", 0);
            reasons = Rig.join(reasons, 143);
        }
        r.feed(0, Rig.subscribe(1, entries));
        r.sends(0, Rig.suback(1, reasons));
    }

    private static void otherOptions() {
        Check.about("others must not be (129)");
        for (int options : new int[] {64, 128, 192, 65, 255, 67, 112}) {
            fault(129, Rig.subscribe(1, "a", options));
            fault(129, Rig.subscribe(1, "b", 0, "a", options));
        }
        fault(0, Rig.subscribe(1, "a", 46));
    }

    private static void qualityOrHandlingThree() {
        Check.about("a quality or handling of 3 [..]: 130");
        for (int options = 0; options < 64; options++) {
            boolean three = (options & 3) == 3 || (options & 48) == 48;
            fault(three ? 130 : 0, Rig.subscribe(1, "a", options));
        }
        fault(130, Rig.subscribe(1, "b", 0, "a", 3));
        fault(130, Rig.subscribe(1, "a", 3, "b", 64));
        fault(129, Rig.subscribe(1, "a", 64, "b", 3));
    }

    private static void noLocalWithShare() {
        Check.about("or NO LOCAL with what begins with $share/: 130");
        fault(130, Rig.subscribe(1, "$share/n/a", 4));
        fault(130, Rig.subscribe(1, "$share/", 4));
        fault(130, Rig.subscribe(1, "$share//+a", 6));
        fault(130, Rig.subscribe(1, "b", 0, "$share/n/a", 4));
        fault(0, Rig.subscribe(1, "$share", 4));
        fault(0, Rig.subscribe(1, "a/$share/b", 4));
        fault(0, Rig.subscribe(1, "$share/n/a", 0));
    }

    private static void behindAll() {
        Check.about("Behind all one by one");
        // Nothing is done of a packet whose last entry is wrong.
        fault(129, Rig.subscribe(1, "a", 0, "b", 0, "c", 64));
        fault(130, Rig.subscribe(1, "a", 0, "b", 0, "c", 3));
        fault(129, Rig.subscribe(1, "a", 0, "b", 0, "c"));
        fault(129, Rig.subscribe(1, "a", 0, "\u0000", 0));
        fault(129, Rig.unsubscribe(1, "here", "\u0000"));
    }

    private static void neitherFilterNorShared() {
        Check.about("what is neither FILTER nor SHARED: 143");
        Rig r = one();
        r.feed(0, Rig.subscribe(1, "", 0, "a#", 1, "ok", 1, "$share/n", 2, Rig.repeat("f", 65), 0));
        r.sends(0, Rig.suback(1, 143, 143, 1, 143, 143));
        r.session(0, 1, 1);
        Check.same("told", "ok", r.filterOf(0, 0));
    }

    private static void theNinth() {
        Check.about("a ninth subscription 151");
        Rig r = one();
        r.feed(0, Rig.subscribe(1, "a", 0, "b", 0, "c", 0, "d", 0, "e", 0, "f", 0, "g", 0, "h", 0, "i", 0));
        r.sends(0, Rig.suback(1, 0, 0, 0, 0, 0, 0, 0, 0, 151));
        // One that is there already is none, and what is no FILTER is 143 first.
        r.feed(0, Rig.subscribe(2, "a", 1, "$share/n/a", 1, "h", 2, "#/", 0));
        r.sends(0, Rig.suback(2, 1, 151, 2, 143));
        r.session(0, 1, 8);
        r.feed(0, Rig.unsubscribe(3, "d"));
        r.feed(0, Rig.subscribe(4, "i", 0, "j", 0));
        r.sends(0, Rig.unsuback(3, 0), Rig.suback(4, 0, 151));
        Check.same("the last", "i", r.filterOf(0, 7));
    }

    private static void inThePlaceOfTheSame() {
        Check.about("otherwise the session has it, in the place of one with the same bytes (what that got counts on)");
        Rig r = one();
        r.feed(0, Rig.packet(130, Rig.two(1), Rig.properties(11, 7), "a", 1, "b", 0, "$share/n/a", 0));
        r.feed(0, Rig.publish(0, "a", 0, ""));
        r.feed(0, Rig.publish(0, "a", 0, ""));
        r.feed(0, Rig.subscribe(1, "a", 42, "$share/n/a", 8));
        r.session(0, 1, 3);
        int[][] due = {{42, 0, 1, 2}, {0, 7, 1, 0}, {8, 0, 10, 2}};
        for (int k = 0; k < 3; k++) {
            for (int what = 0; what < 4; what++) {
                Check.same("subscription", due[k][what], r.broker.subscription(0, k, what));
            }
        }
        // Other bytes are another one, though they match the same.
        r.feed(0, Rig.subscribe(1, "a/#", 0, "$share/m/a", 0));
        r.session(0, 1, 5);
        Check.same("got", 0, r.broker.subscription(0, 4, 3));
    }

    private static void theReasonIsTheQuality() {
        Check.about("and its reason is the quality");
        Rig r = one();
        r.feed(0, Rig.subscribe(1, "a", 0, "b", 1, "c", 2, "d", 44, "e", 29, "$share/n/a", 42));
        r.sends(0, Rig.suback(1, 0, 1, 2, 0, 1, 2));
    }

    private static void suback() {
        Check.about("The broker sends SUBACK: 144, VARIABLE, the number, 0, the reasons.");
        Rig r = one();
        r.feed(0, Rig.subscribe(515, "a", 1));
        r.sends(0, new int[] {144, 4, 2, 3, 0, 1});
        int[] entries = {};
        int[] reasons = {};
        for (int i = 0; i < 125; i++) {
            entries = Rig.join(entries, "", 0);
            reasons = Rig.join(reasons, 143);
        }
        // With 124 reasons 127 bytes follow, with 125 of them 128.
        r.feed(0, Rig.subscribe(1, Arrays.copyOf(entries, 372)));
        r.sends(0, Rig.join(144, 127, 0, 1, 0, Arrays.copyOf(reasons, 124)));
        r.feed(0, Rig.subscribe(1, entries));
        r.sends(0, Rig.join(144, 128, 1, 0, 1, 0, reasons));
    }

    private static void handlingNone() {
        Check.about("Then, for each that was taken and is not SHARED, in order, with HANDLING 0");
        Rig r = withRetained(0);
        for (int i = 1; i <= 3; i++) {
            r.feed(0, Rig.subscribe(1, "a", 0));
            r.sends(0, Rig.suback(1, 0), Rig.publish(1, "a", 0, "p0"));
            Check.same("got", i, r.broker.subscription(0, 0, 3));
        }
    }

    private static void handlingOne() {
        Check.about("or 1 if it was not there before");
        Rig r = withRetained(0);
        r.feed(0, Rig.subscribe(1, "a", 16));
        r.sends(0, Rig.suback(1, 0), Rig.publish(1, "a", 0, "p0"));
        r.feed(0, Rig.subscribe(1, "a", 16));
        r.sends(0, Rig.suback(1, 0));
        r.feed(0, Rig.unsubscribe(1, "a"));
        r.feed(0, Rig.subscribe(1, "a", 16));
        r.sends(0, Rig.unsuback(1, 0), Rig.suback(1, 0), Rig.publish(1, "a", 0, "p0"));
        r.feed(0, Rig.subscribe(1, "+", 16));
        r.sends(0, Rig.suback(1, 0), Rig.publish(1, "a", 0, "p0"));
    }

    private static void handlingTwo() {
        Check.about("with HANDLING 0, or 1");
        Rig r = withRetained(0);
        r.feed(0, Rig.subscribe(1, "a", 32));
        r.feed(0, Rig.subscribe(1, "a", 32));
        r.sends(0, Rig.suback(1, 0), Rig.suback(1, 0));
        Check.same("got", 0, r.broker.subscription(0, 0, 3));
    }

    private static void handlingOfEachEntry() {
        Check.about("(as this packet tells it there)");
        int[] given = Rig.publish(1, "a", 0, "p0");
        int[][] told = {{0, 0}, {0, 16}, {0, 32}, {16, 0}, {16, 16}, {16, 32}, {32, 0}, {32, 16}, {32, 32}};
        // How often it is given: by the first entry, for which it is new, and by the second, for which it is not.
        int[] due = {2, 1, 1, 2, 1, 1, 1, 0, 0};
        for (int i = 0; i < told.length; i++) {
            Rig r = withRetained(0);
            r.feed(0, Rig.subscribe(1, "a", told[i][0], "a", told[i][1]));
            r.sends(0, Rig.suback(1, 0, 0), due[i] > 0 ? given : new int[0], due[i] > 1 ? given : new int[0]);
            Check.same("options", told[i][1], r.broker.subscription(0, 0, 0));
        }
    }

    private static void notThoseThatWereNotTaken() {
        Check.about("for each that was taken");
        Rig r = withRetained(0);
        r.feed(0, Rig.subscribe(1, "b", 0, "c", 0, "d", 0, "e", 0, "f", 0, "g", 0, "h", 0, "i", 0));
        r.broker.take(0, 99);
        r.feed(0, Rig.subscribe(1, "a", 0, "#a", 0));
        r.sends(0, Rig.suback(1, 151, 143));
    }

    private static void notThoseThatAreShared() {
        Check.about("and is not SHARED");
        Rig r = withRetained(0, 0);
        for (int handling = 0; handling < 3; handling++) {
            r.feed(0, Rig.subscribe(1, "$share/n/#", handling << 4));
            r.sends(0, Rig.suback(1, 0));
        }
        Check.same("got", 0, r.broker.subscription(0, 0, 3));
    }

    private static void allRetainedInTheirOrder() {
        Check.about("all RETAINED messages that it MATCHES, in their order");
        Rig r = withRetained(0, 0, 0);
        r.feed(0, Rig.publish(1, "a", 0, "new"));
        r.feed(0, Rig.publish(1, "a/b", 0, "deep"));
        r.feed(0, Rig.publish(1, "$a", 0, "hidden"));
        r.feed(0, Rig.subscribe(1, "c", 0, "+", 0, "none", 0));
        r.sends(0, Rig.suback(1, 0, 0, 0), Rig.publish(1, "c", 0, "p2"), Rig.publish(1, "a", 0, "new"),
                Rig.publish(1, "b", 0, "p1"), Rig.publish(1, "c", 0, "p2"));
        // Sixteen at most.
        Rig q = one();
        int[] all = Rig.suback(1, 0);
        for (int i = 0; i < 17; i++) {
            q.feed(0, Rig.publish(1, "r" + i, 0, "p"));
            all = i < 16 ? Rig.join(all, Rig.publish(1, "r" + i, 0, "p")) : all;
        }
        q.feed(0, Rig.subscribe(1, "#", 0));
        q.sends(0, all);
        Check.same("got", 16, q.broker.subscription(0, 0, 3));
    }

    private static void retainedAsInSix() {
        Check.about("as in 6, with RETAIN 1");
        Rig r = withRetained(2, 1, 0);
        // The lesser quality; RETAIN 1 also without AS PUBLISHED.
        r.feed(0, Rig.subscribe(1, "+", 1));
        r.sends(0, Rig.suback(1, 1), Rig.publish(3, "a", 1, "p0"), Rig.publish(3, "b", 2, "p1"),
                Rig.publish(1, "c", 0, "p2"));
        r.session(0, 2, 2);
        // With MOST it WAITS, beyond SIZE it is DROPPED, with LIFE it has what is left.
        r.enter(1, Rig.connect("y", 0, 0, Rig.properties(33, 0, 1, 39, Rig.four(14))));
        r.feed(0, Rig.publish(1, "d", 0, Rig.properties(2, Rig.four(5)), "p"));
        r.feed(0, Rig.publish(1, "e", 0, "is too long"));
        r.broker.pass(2);
        r.feed(1, Rig.subscribe(1, "#", 2));
        r.sends(1, Rig.suback(1, 2), Rig.publish(5, "a", 1, "p0"), Rig.publish(1, "c", 0, "p2"),
                Rig.publish(1, "d", 0, Rig.properties(2, Rig.four(3)), "p"));
        r.session(1, 3, 1);
        r.told(5, 1);
        Check.same("got", 5, r.broker.subscription(1, 0, 3));
        // They are not DISTRIBUTED anew.
        r.told(4, 5);
        // What WAITS is sent with RETAIN 1 too.
        r.feed(1, Rig.answer(80, 1, 128));
        r.sends(1, Rig.publish(3, "b", 1, "p1"));
    }

    private static void byTheOptionsThatItHasThen() {
        Check.about("(by the OPTIONS and IDENTIFIER that it has then");
        Rig r = withRetained(2);
        r.feed(0, Rig.packet(130, Rig.two(1), Rig.properties(11, 9), "a", 0, "a", 34));
        r.sends(0, Rig.suback(1, 0, 2), Rig.publish(5, "a", 1, Rig.properties(11, 9), "p0"));
        r.feed(0, Rig.subscribe(1, "a", 1, "a", 32));
        r.sends(0, Rig.suback(1, 1, 0), Rig.publish(1, "a", 0, "p0"));
    }

    private static void noLocalDoesNotMatter() {
        Check.about("NO LOCAL does not matter here)");
        Rig r = withRetained(0);
        r.feed(0, Rig.subscribe(1, "a", 4));
        r.sends(0, Rig.suback(1, 0), Rig.publish(1, "a", 0, "p0"));
        r.feed(0, Rig.publish(0, "a", 0, "not this"));
        r.sends(0);
    }

    private static void unsubscribeNumberNone() {
        Check.about("UNSUBSCRIBE: TWO (0: 130); properties 38");
        fault(130, Rig.unsubscribe(0, "here"));
        fault(130, Rig.packet(162, Rig.two(0), 1));
        fault(130, Rig.packet(162, Rig.two(1), Rig.properties(11, 1), "here"));
        fault(130, Rig.packet(162, Rig.two(1), Rig.properties(31, ""), "here"));
        fault(0, Rig.packet(162, Rig.two(65535), Rig.properties(38, "", "", 38, "", ""), "here"));
    }

    private static void unsubscribeOnceOrMore() {
        Check.about("once or more (130 if there is none) a STRING");
        fault(130, Rig.packet(162, Rig.two(1), 0));
        fault(129, Rig.packet(162, Rig.two(1), 0, "here", 0));
        fault(0, Rig.unsubscribe(1, "here"));
        Rig r = one();
        int[] entries = {};
        int[] reasons = {};
        for (int i = 0; i < 198; i++) {
            entries = Rig.join(entries, "");
            reasons = Rig.join(reasons, 143);
        }
        r.feed(0, Rig.unsubscribe(1, entries));
        r.sends(0, Rig.unsuback(1, reasons));
    }

    private static void unsubscribeReasons() {
        Check.about("Reasons: 143; 17, if there is no such subscription; 0, and it goes."
                + " UNSUBACK: 176, VARIABLE, the number, 0, the reasons.");
        Rig r = one();
        r.feed(0, Rig.subscribe(1, "a", 0, "$share/n/a", 0, "b", 0));
        r.broker.take(0, 99);
        r.feed(0, Rig.unsubscribe(515, "", "a#", "$share/n", "c", "a", "a", "$share/m/a", "$share/n/a", "+"));
        r.sends(0, new int[] {176, 12, 2, 3, 0, 143, 143, 143, 17, 0, 17, 17, 0, 17});
        r.session(0, 1, 1);
        Check.same("told", "b", r.filterOf(0, 0));
        r.feed(0, Rig.publish(2, "a", 1, ""));
        r.sends(0, Rig.answer(64, 1, 16));
        // What is ON THE WAY by it stays so.
        r.feed(0, Rig.subscribe(1, "b", 1));
        r.feed(0, Rig.publish(2, "b", 1, ""));
        r.feed(0, Rig.unsubscribe(2, "b"));
        r.session(0, 1, 0);
        r.session(0, 2, 1);
    }

    private static void ping() {
        Check.about("PINGREQ (type 12, flags 0, nothing): 208, 0 is sent.");
        Rig r = one();
        r.feed(0, 192, 0);
        r.sends(0, new int[] {208, 0});
        fault(129, Rig.packet(192, 0));
        fault(129, Rig.packet(200));
    }

    private static void disconnectOfNothing() {
        Check.about("DISCONNECT (type 14, flags 0): nothing, or a byte, the reason, and, if there is more,"
                + " properties 17, 31, 38.");
        int[][] fine = {{}, {0}, {4}, {255}, {0, 0}, Rig.join(0, Rig.properties(17, Rig.four(5))),
            Rig.join(0, Rig.properties(31, "")), Rig.join(4, Rig.properties(38, "", "", 38, "", ""))};
        for (int[] body : fine) {
            Rig r = one();
            Check.same("taken", 1, r.feed(0, Rig.packet(224, body)));
            r.closedWith(0);
            r.session(0, 0, -1);
        }
        fault(129, Rig.packet(224, 0, 0, 0));
        fault(129, Rig.packet(224, 0, 1));
        fault(130, Rig.packet(224, 0, Rig.properties(3, "")));
        fault(129, Rig.packet(226, 0));
    }

    private static void disconnectWithExpiry() {
        Check.about("else EXPIRY is that");
        for (long seconds : new long[] {1, 98, 100, 2147483648L, Rig.NEVER}) {
            Rig r = one();
            r.feed(0, Rig.packet(224, 0, Rig.properties(17, Rig.four(seconds))));
            r.closedWith(0);
            Check.same("EXPIRY", seconds, r.broker.expiry(0));
            Check.same("ended", seconds == 1 ? 1 : 0, r.broker.pass(1));
        }
        Rig r = one();
        r.feed(0, Rig.packet(224, 0, 0));
        Check.same("EXPIRY", 99, r.broker.expiry(0));
        // What another packet told before is not meant.
        r = new Rig();
        r.enter(0, "x", 0);
        r.enter(1, "y", 9);
        r.feed(0, 224, 0);
        r.closedWith(0);
        // With 0 it ENDS at once.
        r = one();
        r.feed(0, Rig.packet(224, 0, Rig.properties(17, Rig.four(0))));
        r.closedWith(0);
        r.told(0, 0);
    }

    private static void disconnectWithExpiryOfNone() {
        Check.about("With 17, not 0, while EXPIRY is 0: 130");
        for (long seconds : new long[] {0, 1, Rig.NEVER}) {
            for (int reason : new int[] {0, 4}) {
                Rig r = new Rig();
                r.enter(0, Rig.connect("x", 4, 0, Rig.properties(), 0, "w", ""));
                r.feed(0, Rig.packet(224, reason, Rig.properties(17, Rig.four(seconds))));
                r.closedWith(0, seconds == 0 ? new int[0] : Rig.farewell(130));
                // By the fault the will stays, and comes.
                r.told(4, seconds == 0 && reason == 0 ? 0 : 1);
                r.told(0, 0);
            }
        }
        // The packet is read to its end before.
        Rig r = new Rig();
        r.enter(0, "x", 0);
        r.feed(0, Rig.packet(224, 0, Rig.properties(17, Rig.four(1)), 0));
        r.closedWith(0, Rig.farewell(129));
    }

    private static void disconnectAndTheWill() {
        Check.about("With reason 0, or nothing, the will goes.");
        int[][] bodies = {{}, {0}, {0, 0}, {1}, {4}, {128}, {255}};
        for (int i = 0; i < bodies.length; i++) {
            for (int delay = 0; delay < 2; delay++) {
                Rig r = new Rig();
                r.enter(0, Rig.connect("x", 4, 0, Rig.expiry(9), Rig.properties(24, Rig.four(delay)), "w", ""));
                r.feed(0, Rig.packet(224, bodies[i]));
                r.session(0, 5, i > 2 && delay > 0 ? 1 : 0);
                r.broker.pass(1);
                r.told(4, i > 2 ? 1 : 0);
            }
        }
    }

    private static void lostWithoutAPacket() {
        Check.about("The connection is LOST then (without a packet).");
        Rig r = one();
        int sent = r.broker.told(3);
        r.feed(0, 224, 0);
        r.closedWith(0);
        r.told(3, sent);
        r.told(0, 1);
    }
}
