/** The edges of part 5 of the terms, PUBLISH from a client, a test for each sentence. */
public final class PublishEdgesTest {
    public static void main(String[] args) {
        qualityThree();
        againWithQualityNone();
        topicsThatAreNone();
        numberNone();
        responseThatIsNoTopic();
        aliasesOutOfRange();
        theRestIsPayload();
        aliasFromNowOn();
        aliasOfThisConnection();
        noTopicAndNoAlias();
        heldAlready();
        eightHeldOthers();
        emptyTakesTheRetainedAway();
        inThePlaceOfTheOneBefore();
        behindAllOthers();
        sixteenOthersAndQualityNone();
        sixteenOthersAndAnAnswer();
        sixteenWithItsOwn();
        sixteenAndOneThatIsGone();
        someSubscriptionGotIt();
        noSubscriptionGotIt();
        formsOfAnswers();
        goneByItsLife();
        goneAtOnce();
        retainedGoneByItsLife();
        retainedGoneAtOnce();
        Check.end();
    }

    private static Rig one() {
        Rig r = new Rig();
        r.enter(0, "x", 99);
        return r;
    }

    /** A publisher on 0, and on 1 a client that hears all. */
    private static Rig withSeer(int options) {
        Rig r = one();
        r.enter(1, "seer", 99);
        r.listen(1, "#", options);
        return r;
    }

    private static void fault(int due, int[] packet) {
        Rig r = one();
        Check.same("taken", 1, r.feed(0, packet));
        if (due == 0) {
            Check.yes("it is no fault", r.broker.isOpen(0));
        } else {
            r.closedWith(0, Rig.farewell(due));
            r.told(4, 0);
            r.told(1, 0);
            r.session(0, 4, 0);
        }
    }

    private static int[] alias(int alias) {
        return Rig.properties(35, Rig.two(alias));
    }

    private static int[] life(long seconds) {
        return Rig.properties(2, Rig.four(seconds));
    }

    private static void qualityThree() {
        Check.about("2 and 4 the quality, 3 of which is 129");
        for (int flags : new int[] {6, 7, 14, 15}) {
            fault(129, Rig.publish(flags, "t", 1, "p"));
        }
        for (int flags : new int[] {0, 1, 2, 3, 4, 5, 10, 11, 12, 13}) {
            fault(0, Rig.publish(flags, "t", 1, "p"));
        }
    }

    private static void againWithQualityNone() {
        Check.about("8 again, with quality 0 129");
        fault(129, Rig.publish(8, "t", 1, "p"));
        fault(129, Rig.publish(9, "t", 1, "p"));
        fault(129, Rig.publish(8, "+", 1, "p"));
    }

    private static void topicsThatAreNone() {
        Check.about("STRING (which has a byte, but is no TOPIC: 144)");
        fault(0, Rig.publish(0, "t", 0, ""));
        fault(0, Rig.publish(0, Rig.repeat("t", 64), 0, ""));
        fault(144, Rig.publish(0, Rig.repeat("t", 65), 0, ""));
        fault(144, Rig.publish(0, "a/+", 0, ""));
        fault(144, Rig.publish(0, "#", 0, ""));
        fault(144, Rig.publish(2, "+", 0, ""));
        fault(144, Rig.publish(0, "+", 0, Rig.properties(99), ""));
        fault(144, Rig.publish(0, "+", 0, alias(1), ""));
    }

    private static void numberNone() {
        Check.about("with a quality a TWO, its number (0: 130)");
        for (int flags : new int[] {2, 4}) {
            fault(130, Rig.publish(flags, "t", 0, ""));
            fault(130, Rig.publish(flags, "t", 0, Rig.properties(1, 2), ""));
            fault(0, Rig.publish(flags, "t", 1, ""));
            fault(0, Rig.publish(flags, "t", 256, ""));
            fault(0, Rig.publish(flags, "t", 65535, ""));
        }
    }

    private static void responseThatIsNoTopic() {
        Check.about("8 (no TOPIC: 130, behind them)");
        for (String topic : new String[] {"", "+", "a/#", Rig.repeat("r", 65)}) {
            fault(130, Rig.publish(0, "t", 0, Rig.properties(8, topic), ""));
            fault(129, Rig.publish(0, "t", 0, Rig.properties(8, topic, 1, 2), ""));
        }
        fault(0, Rig.publish(0, "t", 0, Rig.properties(8, Rig.repeat("r", 64)), ""));
        fault(0, Rig.publish(0, "t", 0, Rig.properties(8, "r"), ""));
        // That of another packet is not meant.
        Rig r = withSeer(0);
        r.feed(1, Rig.publish(0, "t", 0, Rig.properties(8, "+"), ""));
        r.feed(0, Rig.publish(0, "t", 0, ""));
        Check.yes("open", r.broker.isOpen(0) && !r.broker.isOpen(1));
    }

    private static void aliasesOutOfRange() {
        Check.about("35 (ALIAS: 0 or above 4: 148, behind them, and behind 8)");
        for (int alias : new int[] {0, 5, 256, 65535}) {
            fault(148, Rig.publish(0, "t", 0, alias(alias), ""));
            fault(148, Rig.publish(0, "", 0, alias(alias), ""));
            fault(129, Rig.publish(0, "t", 0, Rig.properties(35, Rig.two(alias), 1, 2), ""));
            fault(130, Rig.publish(0, "t", 0, Rig.properties(35, Rig.two(alias), 99), ""));
            fault(130, Rig.publish(0, "t", 0, Rig.properties(35, Rig.two(alias), 8, "+"), ""));
        }
        for (int alias = 1; alias <= 4; alias++) {
            fault(0, Rig.publish(0, "t", 0, alias(alias), ""));
        }
    }

    private static void theRestIsPayload() {
        Check.about("all that is left is the payload");
        Rig r = withSeer(0);
        for (String payload : new String[] {"", "\u0000", "\u00ff\u0000p", Rig.repeat("p", 396)}) {
            r.feed(0, Rig.publish(0, "t", 0, payload));
            r.sends(1, Rig.publish(0, "t", 0, payload));
        }
    }

    private static void aliasFromNowOn() {
        Check.about("With an ALIAS the topic is what it stands for from now on");
        Rig r = withSeer(0);
        r.feed(0, Rig.publish(0, "a", 0, alias(4), "1"));
        r.feed(0, Rig.publish(0, "", 0, alias(4), "2"));
        r.feed(0, Rig.publish(0, "b", 0, alias(4), "3"));
        r.feed(0, Rig.publish(0, "", 0, alias(4), "4"));
        r.feed(0, Rig.publish(0, "c", 0, alias(1), "5"));
        r.feed(0, Rig.publish(0, "", 0, alias(4), "6"));
        r.sends(1, Rig.publish(0, "a", 0, "1"), Rig.publish(0, "a", 0, "2"), Rig.publish(0, "b", 0, "3"),
                Rig.publish(0, "b", 0, "4"), Rig.publish(0, "c", 0, "5"), Rig.publish(0, "b", 0, "6"));
        // The topic of a RETAINED message is the one that was meant.
        r.feed(0, Rig.publish(1, "", 0, alias(1), "kept"));
        Check.same("topic", "c", r.topics());
    }

    private static void aliasOfThisConnection() {
        Check.about("on this connection");
        Rig r = withSeer(0);
        r.feed(0, Rig.publish(0, "a", 0, alias(1), "1"));
        r.broker.take(1, 99);
        r.feed(1, Rig.publish(0, "", 0, alias(1), "2"));
        r.closedWith(1, Rig.farewell(130));
        r.broker.lose(0);
        r.enter(0, "x", 99);
        r.feed(0, Rig.publish(0, "", 0, alias(1), "3"));
        r.closedWith(0, Rig.farewell(130));
    }

    private static void noTopicAndNoAlias() {
        Check.about("without bytes the topic is what ALIAS stands for (no ALIAS, or it stands for none: 130)");
        fault(130, Rig.publish(0, "", 0, ""));
        fault(130, Rig.publish(2, "", 1, "p"));
        for (int alias = 1; alias <= 4; alias++) {
            fault(130, Rig.publish(0, "", 0, alias(alias), ""));
        }
        Rig r = one();
        r.feed(0, Rig.publish(0, "t", 0, alias(2), ""));
        r.feed(0, Rig.publish(0, "", 0, alias(2), ""));
        Check.yes("open", r.broker.isOpen(0));
        r.feed(0, Rig.publish(0, "", 0, alias(3), ""));
        r.closedWith(0, Rig.farewell(130));
        r = one();
        r.feed(0, Rig.publish(0, "t", 0, alias(2), ""));
        r.feed(0, Rig.publish(0, "", 0, ""));
        r.closedWith(0, Rig.farewell(130));
        // Without an ALIAS a topic is what none stands for.
        for (int alias = 0; alias <= 4; alias++) {
            r = one();
            r.feed(0, Rig.publish(0, "t", 0, ""));
            r.feed(0, Rig.publish(0, "", 0, alias == 0 ? Rig.properties() : alias(alias), ""));
            r.closedWith(0, Rig.farewell(130));
        }
    }

    private static void heldAlready() {
        Check.about("Quality 2, and the number is HELD: PUBREC is sent with 0, and nothing else is done.");
        Rig r = withSeer(2);
        r.feed(0, Rig.publish(4, "t", 7, "a"));
        r.sends(0, Rig.answer(80, 7));
        r.sends(1, Rig.publish(4, "t", 1, "a"));
        r.feed(0, Rig.publish(13, "u", 7, "b"));
        r.feed(0, Rig.publish(5, "u", 7, ""));
        r.sends(0, Rig.answer(80, 7), Rig.answer(80, 7));
        r.sends(1);
        r.told(1, 0);
        r.told(4, 1);
        r.session(0, 4, 1);
        // With 0 also when nothing got the first one, or when there is no room for what it would retain.
        Rig q = one();
        q.feed(0, Rig.publish(4, "t", 7, "a"));
        q.sends(0, Rig.answer(80, 7, 16));
        for (int i = 0; i < 16; i++) {
            q.feed(0, Rig.publish(1, "r" + i, 0, "p"));
        }
        q.feed(0, Rig.publish(5, "t", 7, "a"));
        q.sends(0, Rig.answer(80, 7));
        // Quality 1 has nothing to do with it.
        q.feed(0, Rig.publish(2, "t", 7, "a"));
        q.sends(0, Rig.answer(64, 7, 16));
        q.told(4, 18);
    }

    private static void eightHeldOthers() {
        Check.about("If there are 8 HELD others: the fault 147.");
        Rig r = one();
        for (int n = 1; n <= 8; n++) {
            r.feed(0, Rig.publish(4, "t", n, ""));
            r.sends(0, Rig.answer(80, n, 16));
        }
        r.feed(0, Rig.publish(4, "t", 1, ""));
        r.feed(0, Rig.publish(4, "t", 8, ""));
        r.sends(0, Rig.answer(80, 1), Rig.answer(80, 8));
        r.feed(0, Rig.publish(2, "t", 9, ""));
        r.sends(0, Rig.answer(64, 9, 16));
        r.feed(0, Rig.publish(5, "t", 9, "p"));
        r.closedWith(0, Rig.farewell(147));
        r.told(1, 0);
        r.told(4, 9);
        // One less, and there is room for one again.
        r.enter(0, "x", 99);
        r.feed(0, Rig.answer(98, 8));
        r.feed(0, Rig.publish(4, "t", 9, ""));
        r.sends(0, Rig.answer(112, 8), Rig.answer(80, 9, 16));
        r.session(0, 4, 8);
    }

    private static void emptyTakesTheRetainedAway() {
        Check.about("RETAIN: without payload the topic's RETAINED message goes");
        Rig r = withSeer(8);
        r.feed(0, Rig.publish(1, "a", 0, "p"));
        r.feed(0, Rig.publish(1, "b", 0, "p"));
        r.feed(0, Rig.publish(1, "c", 0, "p"));
        r.broker.take(1, 99);
        r.feed(0, Rig.publish(0, "b", 0, ""));
        Check.same("without RETAIN none goes", "a b c", r.topics());
        r.feed(0, Rig.publish(3, "b", 1, ""));
        Check.same("topics", "a c", r.topics());
        r.feed(0, Rig.publish(1, "b", 0, ""));
        r.feed(0, Rig.publish(1, "none", 0, ""));
        Check.same("topics", "a c", r.topics());
        // It is distributed all the same.
        r.sends(1, Rig.publish(0, "b", 0, ""), Rig.publish(1, "b", 0, ""), Rig.publish(1, "b", 0, ""),
                Rig.publish(1, "none", 0, ""));
        r.feed(0, Rig.publish(1, "c", 0, ""));
        r.feed(0, Rig.publish(1, "a", 0, ""));
        r.told(1, 0);
    }

    private static void inThePlaceOfTheOneBefore() {
        Check.about("else this one is it (in the place of the one before");
        Rig r = one();
        r.feed(0, Rig.publish(1, "a", 0, "p"));
        r.feed(0, Rig.publish(1, "b", 0, life(9), "p"));
        r.feed(0, Rig.publish(1, "c", 0, "p"));
        r.feed(0, Rig.publish(3, "b", 1, "other"));
        Check.same("topics", "a b c", r.topics());
        Check.same("payload", "other", r.keptOf(1, true));
        Check.same("quality", 1, r.broker.retained(1, 2));
        Check.same("LIFE", -1, r.broker.retained(1, 3));
        r.broker.pass(9);
        r.told(1, 3);
    }

    private static void behindAllOthers() {
        Check.about("a new topic comes behind all others)");
        Rig r = one();
        for (String topic : new String[] {"c", "a", "b"}) {
            r.feed(0, Rig.publish(1, topic, 0, "p"));
        }
        Check.same("topics", "c a b", r.topics());
        r.feed(0, Rig.publish(1, "c", 0, ""));
        r.feed(0, Rig.publish(1, "c", 0, "p"));
        Check.same("topics", "a b c", r.topics());
        r.feed(0, Rig.publish(1, "b", 0, life(1), "p"));
        r.broker.pass(1);
        r.feed(0, Rig.publish(1, "b", 0, "p"));
        Check.same("topics", "a c b", r.topics());
    }

    private static void sixteen(Rig r) {
        for (int i = 0; i < 16; i++) {
            r.feed(0, Rig.publish(1, "r" + i, 0, "p"));
            r.told(1, i + 1);
        }
        r.broker.take(1, 999);
    }

    private static void sixteenOthersAndQualityNone() {
        Check.about("With 16 of other topics: with quality 0 nothing is done at all");
        Rig r = withSeer(0);
        sixteen(r);
        r.feed(0, Rig.publish(1, "new", 0, "p"));
        r.sends(0);
        r.sends(1);
        r.told(1, 16);
        r.told(4, 16);
        // Without RETAIN there is nothing that needs room.
        r.feed(0, Rig.publish(0, "new", 0, "p"));
        r.sends(1, Rig.publish(0, "new", 0, "p"));
    }

    private static void sixteenOthersAndAnAnswer() {
        Check.about("else the answer has 151, and nothing else is done (the number is not HELD)");
        Rig r = withSeer(2);
        sixteen(r);
        r.feed(0, Rig.publish(3, "new", 5, "p"));
        r.sends(0, Rig.answer(64, 5, 151));
        r.feed(0, Rig.publish(5, "new", 6, "p"));
        r.sends(0, Rig.answer(80, 6, 151));
        r.sends(1);
        r.session(0, 4, 0);
        r.told(4, 16);
        r.told(1, 16);
        r.feed(0, Rig.answer(98, 6));
        r.sends(0, Rig.answer(112, 6, 146));
    }

    private static void sixteenWithItsOwn() {
        Check.about("With 16 of other topics");
        Rig r = withSeer(0);
        sixteen(r);
        r.feed(0, Rig.publish(3, "r0", 5, "new"));
        r.feed(0, Rig.publish(3, "r15", 6, "new"));
        r.sends(0, Rig.answer(64, 5), Rig.answer(64, 6));
        Check.same("payload", "new", r.keptOf(0, true));
        Check.same("payload", "new", r.keptOf(15, true));
        // Nor does one without payload need room, and when one goes there is some.
        r.feed(0, Rig.publish(3, "new", 7, ""));
        r.feed(0, Rig.publish(3, "r7", 8, ""));
        r.feed(0, Rig.publish(3, "new", 9, "p"));
        r.sends(0, Rig.answer(64, 7), Rig.answer(64, 8), Rig.answer(64, 9));
        r.told(1, 16);
        Check.same("the last", "new", r.keptOf(15, false));
    }

    private static void sixteenAndOneThatIsGone() {
        Check.about("With 16 of other topics [..] A message with LIFE is gone [..]; so are RETAINED ones.");
        Rig r = withSeer(0);
        for (int i = 0; i < 16; i++) {
            r.feed(0, Rig.publish(1, "r" + i, 0, i == 3 ? life(2) : Rig.properties(), "p"));
        }
        r.broker.take(1, 999);
        r.broker.pass(1);
        r.feed(0, Rig.publish(3, "new", 5, "p"));
        r.sends(0, Rig.answer(64, 5, 151));
        r.broker.pass(1);
        r.feed(0, Rig.publish(3, "new", 5, "p"));
        r.sends(0, Rig.answer(64, 5));
        r.told(1, 16);
        // One that would be gone at once needs room as well.
        r.feed(0, Rig.publish(3, "other", 5, life(0), "p"));
        r.sends(0, Rig.answer(64, 5, 151));
    }

    private static void someSubscriptionGotIt() {
        Check.about("with 0, if some subscription got it (it gets what is handed to it in 6, sent or not)");
        Rig r = one();
        r.enter(1, "y", 99);
        r.listen(1, "t", 0);
        r.broker.lose(1);
        // Not ONLINE, so quality 0 is not sent.
        r.feed(0, Rig.publish(2, "t", 1, "p"));
        r.sends(0, Rig.answer(64, 1));
        // Gone at once, too long, and with no room to wait: it is not sent, but got.
        r.enter(1, Rig.connect("y", 0, 0, Rig.properties(17, Rig.four(99), 39, Rig.four(10))));
        r.listen(1, "t", 1);
        r.feed(0, Rig.publish(2, "t", 2, life(0), ""));
        r.feed(0, Rig.publish(2, "t", 3, "more than ten"));
        r.sends(0, Rig.answer(64, 2), Rig.answer(64, 3));
        r.sends(1);
        r.broker.lose(1);
        for (int i = 0; i < 25; i++) {
            r.feed(0, Rig.publish(2, "t", 4, ""));
            r.sends(0, Rig.answer(64, 4));
        }
        r.told(5, 2);
        Check.same("got", 28, r.broker.subscription(1, 0, 3));
    }

    private static void noSubscriptionGotIt() {
        Check.about("otherwise 16");
        Rig r = one();
        r.feed(0, Rig.publish(2, "t", 1, "p"));
        r.feed(0, Rig.publish(4, "t", 2, "p"));
        r.sends(0, Rig.answer(64, 1, 16), Rig.answer(80, 2, 16));
        r.session(0, 4, 1);
        // A subscription of its own with NO LOCAL does not get it; nor does one that matches not.
        r.feed(0, Rig.subscribe(1, "t", 4, "u", 0));
        r.broker.take(0, 99);
        r.feed(0, Rig.publish(2, "t", 3, "p"));
        r.sends(0, Rig.answer(64, 3, 16));
        r.feed(0, Rig.publish(2, "u", 3, "p"));
        r.sends(0, Rig.publish(0, "u", 0, "p"), Rig.answer(64, 3));
    }

    private static void formsOfAnswers() {
        Check.about("ANSWERS (64 PUBACK, 80 PUBREC, 98 PUBREL, 112 PUBCOMP): this byte, 2, the number as a TWO;"
                + " with another reason than 0: this byte, 3, the number, the reason.");
        Rig r = one();
        r.feed(0, Rig.publish(2, "t", 515, ""));
        r.sends(0, new int[] {64, 3, 2, 3, 16});
        r.feed(0, Rig.publish(4, "t", 515, ""));
        r.sends(0, new int[] {80, 3, 2, 3, 16});
        r.feed(0, Rig.answer(80, 515));
        r.sends(0, new int[] {98, 3, 2, 3, 146});
        r.feed(0, Rig.answer(98, 515));
        r.sends(0, new int[] {112, 2, 2, 3});
        r.feed(0, Rig.answer(98, 515));
        r.sends(0, new int[] {112, 3, 2, 3, 146});
        r.listen(0, "t", 2);
        r.feed(0, Rig.publish(4, "t", 515, ""));
        r.sends(0, Rig.publish(4, "t", 1, ""), new int[] {80, 2, 2, 3});
        r.feed(0, Rig.answer(80, 1));
        r.sends(0, new int[] {98, 2, 0, 1});
        r.feed(0, Rig.publish(2, "t", 515, ""));
        r.sends(0, Rig.publish(2, "t", 2, ""), new int[] {64, 2, 2, 3});
    }

    private static void goneByItsLife() {
        Check.about("A message with LIFE is gone when so many seconds have passed since it came");
        for (int passed = 2; passed <= 4; passed++) {
            Rig r = withSeer(1);
            r.broker.lose(1);
            r.broker.pass(5);
            r.feed(0, Rig.publish(2, "t", 1, life(3), "p"));
            r.broker.pass(passed);
            r.session(1, 3, 1);
            r.broker.open(1);
            r.feed(1, Rig.connect("seer", 0, 0, Rig.expiry(99)));
            r.sends(1, Rig.connack(true), passed == 2 ? Rig.publish(2, "t", 1, life(1), "p") : new int[0]);
            r.session(1, 2, passed == 2 ? 1 : 0);
            r.session(1, 3, 0);
            r.told(5, 0);
        }
    }

    private static void goneAtOnce() {
        Check.about("(of 0 at once)");
        for (int quality = 0; quality < 3; quality++) {
            Rig r = withSeer(2);
            r.feed(0, Rig.publish(quality << 1, "t", 1, life(0), "p"));
            r.sends(1);
            r.session(1, 2, 0);
            r.session(1, 3, 0);
            r.told(4, 1);
            r.told(5, 0);
            Check.same("got", 1, r.broker.subscription(1, 0, 3));
            r.feed(0, Rig.publish(quality << 1, "t", 2, life(1), "p"));
            r.sends(1, Rig.publish(quality << 1, "t", 1, life(1), "p"));
        }
    }

    private static void retainedGoneByItsLife() {
        Check.about("so are RETAINED ones");
        Rig r = one();
        r.feed(0, Rig.publish(1, "a", 0, life(2), "p"));
        r.feed(0, Rig.publish(1, "b", 0, life(3), "p"));
        r.broker.pass(1);
        Check.same("topics", "a b", r.topics());
        Check.same("left", 1, r.broker.retained(0, 3));
        r.broker.pass(1);
        Check.same("topics", "b", r.topics());
        r.feed(0, Rig.subscribe(1, "#", 0));
        r.sends(0, Rig.suback(1, 0), Rig.publish(1, "b", 0, life(1), "p"));
        r.broker.pass(1);
        r.told(1, 0);
        r.feed(0, Rig.subscribe(1, "#", 0));
        r.sends(0, Rig.suback(1, 0));
    }

    private static void retainedGoneAtOnce() {
        Check.about("(of 0 at once); so are RETAINED ones");
        Rig r = one();
        r.feed(0, Rig.publish(1, "a", 0, life(0), "p"));
        r.told(1, 0);
        r.feed(0, Rig.publish(1, "a", 0, "p"));
        r.feed(0, Rig.publish(1, "b", 0, "p"));
        r.feed(0, Rig.publish(1, "a", 0, life(0), "q"));
        Check.same("the one before is not there either", "b", r.topics());
        r.feed(0, Rig.subscribe(1, "#", 0));
        r.sends(0, Rig.suback(1, 0), Rig.publish(1, "b", 0, "p"));
    }
}
