/** The edges of part 6 of the terms, DISTRIBUTING, a test for each sentence. */
public final class DistributeEdgesTest {
    public static void main(String[] args) {
        bySessionsThenSubscriptions();
        noLocal();
        sharedOnlyOne();
        sharedOfTheFirstSession();
        sharedOfThoseOnline();
        sharedLongestAgo();
        sharedThatNeverDid();
        sharedByTheirOrder();
        theLesserQuality();
        retainIsNone();
        qualityNoneIfOnline();
        lessThanMost();
        lessThanSixteen();
        waitsWhenNotOnline();
        droppedWhenTwentyFourWait();
        fewerOnTheWay();
        asLongAsTheyMay();
        goneIsNotSent();
        goneOnesMakeRoom();
        moreThanSize();
        moreThanSizeWhenItIsToBeSent();
        sizeIsOfMessagesAlone();
        onTheWayThoughItDidNotFit();
        whatIsSent();
        lengthsOfWhatIsSent();
        numberNoneInAnAnswer();
        reasonAndPropertiesMayLack();
        puback();
        pubrec();
        pubrecAgain();
        pubrecWithAReason();
        pubrecWithoutAMessage();
        pubcomp();
        pubrel();
        Check.end();
    }

    /** A publisher on 0; on 1 a client "y" that subscribed to t with these OPTIONS. */
    private static Rig pair(int options, Object... properties) {
        Rig r = new Rig();
        r.enter(0, "x", 99);
        r.enter(1, Rig.connect("y", 0, 0, Rig.properties(17, Rig.four(99), Rig.join(properties))));
        r.listen(1, "t", options);
        return r;
    }

    private static int[] life(long seconds) {
        return Rig.properties(2, Rig.four(seconds));
    }

    private static void back(Rig r, Object... properties) {
        r.broker.open(1);
        r.feed(1, Rig.connect("y", 0, 0, Rig.properties(17, Rig.four(99), Rig.join(properties))));
    }

    private static void bySessionsThenSubscriptions() {
        Check.about("By sessions' numbers, then by the order of their subscriptions, each that MATCHES gets the message");
        Rig r = new Rig();
        r.enter(5, "a", 99);
        r.enter(2, "b", 99);
        r.feed(2, Rig.packet(130, Rig.two(1), Rig.properties(11, 1), "+", 0, "none", 0));
        r.feed(2, Rig.packet(130, Rig.two(1), Rig.properties(11, 2), "t", 0, "#", 0));
        r.broker.take(2, 99);
        r.feed(5, Rig.publish(0, "t", 0, ""));
        r.sends(2, Rig.publish(0, "t", 0, Rig.properties(11, 1), ""),
                Rig.publish(0, "t", 0, Rig.properties(11, 2), ""), Rig.publish(0, "t", 0, Rig.properties(11, 2), ""));
        Check.same("got", 0, r.broker.subscription(1, 1, 3));
        // Shared ones are handed at the place of the first session's, so before the second's own.
        r.feed(5, Rig.subscribe(1, "$share/g/t", 0));
        r.feed(2, Rig.packet(130, Rig.two(1), Rig.properties(11, 3), "$share/g/t", 0));
        r.broker.take(2, 99);
        r.broker.take(5, 99);
        r.feed(5, Rig.publish(0, "t", 0, ""));
        r.broker.take(2, 99);
        r.feed(5, Rig.publish(0, "t", 0, ""));
        Check.same("the shared one comes first", 3, r.broker.out(2, 7));
    }

    private static void noLocal() {
        Check.about("but with NO LOCAL not what came from its own session");
        Rig r = pair(4);
        r.feed(1, Rig.publish(0, "t", 0, "own"));
        r.sends(1);
        r.feed(0, Rig.publish(0, "t", 0, "other"));
        r.sends(1, Rig.publish(0, "t", 0, "other"));
        Check.same("got", 1, r.broker.subscription(1, 0, 3));
        // It is the session, not the connection, from which it came.
        r.broker.lose(1);
        r.enter(2, "y", 99);
        r.feed(2, Rig.publish(0, "t", 0, "own"));
        r.sends(2);
        r.feed(2, Rig.subscribe(1, "t", 0));
        r.feed(2, Rig.publish(0, "t", 0, "own"));
        r.sends(2, Rig.suback(1, 0), Rig.publish(0, "t", 0, "own"));
    }

    /** A publisher that is session 4, and members of the group "$share/g/t": sessions and connections 0 .. 3. */
    private static Rig group() {
        Rig r = new Rig();
        for (int c = 0; c < 4; c++) {
            r.enter(c, "m" + c, 99);
            r.listen(c, "$share/g/t", 2);
        }
        r.enter(4, "pub", 99);
        return r;
    }

    /** Publishes, and tells which sessions got it by their first subscription. */
    private static String getters(Rig r, int flags) {
        int[] before = new int[4];
        for (int s = 0; s < 4; s++) {
            before[s] = r.broker.subscription(s, 0, 3);
        }
        r.feed(4, Rig.publish(flags, "t", 1, ""));
        StringBuilder text = new StringBuilder();
        for (int s = 0; s < 4; s++) {
            text.append(r.broker.subscription(s, 0, 3) > before[s] ? Integer.toString(s) : "");
        }
        return text.toString();
    }

    private static String turns(Rig r, int times) {
        StringBuilder text = new StringBuilder();
        for (int i = 0; i < times; i++) {
            text.append(i > 0 ? " " : "").append(getters(r, 0));
        }
        return text.toString();
    }

    private static void sharedOnlyOne() {
        Check.about("Of SHARED ones with the same NAME and FILTER that match only one gets it");
        Rig r = new Rig();
        String[] told = {"$share/g/t", "$share/g/t", "$share/h/t", "$share/g/+"};
        for (int c = 0; c < 4; c++) {
            r.enter(c, "m" + c, 99);
            r.listen(c, told[c], 0);
        }
        r.enter(4, "pub", 99);
        Check.same("one of each", "023 123 023", turns(r, 3));
        // The two of other NAMEs in one session both get it.
        r.feed(0, Rig.subscribe(1, "$share/h/t", 0));
        r.feed(0, Rig.subscribe(1, "t", 0));
        r.broker.take(0, 99);
        r.feed(4, Rig.publish(0, "t", 0, ""));
        r.sends(0, Rig.publish(0, "t", 0, ""), Rig.publish(0, "t", 0, ""));
    }

    private static void sharedOfTheFirstSession() {
        Check.about("at the place of the first of them");
        // Session 0 has one of them: that is the place, though another gets it; it is not handed again.
        Rig r = group();
        Check.same("turns", "0 1 2 3 0", turns(r, 5));
        Rig q = new Rig();
        q.enter(0, "m0", 99);
        q.feed(0, Rig.subscribe(1, "$share/g/t", 0));
        q.enter(1, "m1", 99);
        q.feed(1, Rig.packet(130, Rig.two(1), Rig.properties(11, 7), "t", 0));
        q.feed(1, Rig.packet(130, Rig.two(1), Rig.properties(11, 8), "$share/g/t", 0));
        q.feed(0, Rig.publish(0, "t", 0, ""));
        q.broker.take(1, 99);
        q.feed(0, Rig.publish(0, "t", 0, ""));
        q.sends(1, Rig.publish(0, "t", 0, Rig.properties(11, 8), ""),
                Rig.publish(0, "t", 0, Rig.properties(11, 7), ""));
    }

    private static void sharedOfThoseOnline() {
        Check.about("of those whose session is ONLINE, if there are any, otherwise of all");
        Rig r = group();
        r.broker.lose(0);
        r.broker.lose(2);
        Check.same("of those ONLINE", "1 3 1", turns(r, 3));
        r.broker.lose(3);
        Check.same("of the one ONLINE", "1 1", turns(r, 2));
        r.broker.lose(1);
        Check.same("of all: who never did", "0 2", turns(r, 2));
        Check.same("of all: longest ago", "3 1 0", turns(r, 3));
        r.enter(2, "m2", 99);
        Check.same("of the one ONLINE", "2 2", turns(r, 2));
        // With a quality it WAITS for the one that is not ONLINE.
        r.broker.lose(2);
        Check.same("of all", "3", getters(r, 2));
        r.session(3, 3, 1);
    }

    private static void sharedLongestAgo() {
        Check.about("that which got one longest ago (by messages distributed");
        Rig r = group();
        Check.same("turns", "0 1 2 3", turns(r, 4));
        r.broker.lose(0);
        r.broker.lose(1);
        Check.same("turns", "2 3 2", turns(r, 3));
        r.enter(1, "m1", 99);
        r.enter(0, "m0", 99);
        // What it got counts on, when it is away or when it is told anew.
        r.listen(0, "$share/g/t", 0);
        Check.same("turns", "0 1 3 2", turns(r, 4));
        // The time does not matter, and messages that it does not match neither.
        r.broker.pass(50);
        r.feed(4, Rig.publish(0, "other", 0, ""));
        Check.same("turns", "0 1", turns(r, 2));
    }

    private static void sharedThatNeverDid() {
        Check.about("before all that which never did");
        Rig r = group();
        Check.same("turns", "0 1", turns(r, 2));
        r.feed(0, Rig.unsubscribe(1, "$share/g/t"));
        r.listen(0, "$share/g/t", 0);
        Check.same("one that is new never did", "0 2 3 1", turns(r, 4));
        // What it got as another subscription does not count.
        Rig q = new Rig();
        q.enter(0, "m0", 99);
        q.feed(0, Rig.subscribe(1, "$share/g/t", 0));
        q.enter(1, "m1", 99);
        q.feed(1, Rig.subscribe(1, "$share/g/t", 0, "t", 0));
        q.feed(0, Rig.publish(0, "t", 0, ""));
        q.feed(0, Rig.publish(0, "t", 0, ""));
        Check.same("got", 1, q.broker.subscription(0, 0, 3));
        Check.same("got", 1, q.broker.subscription(1, 0, 3));
    }

    private static void sharedByTheirOrder() {
        Check.about("then by their order");
        Rig r = group();
        Check.same("turn", "0", getters(r, 0));
        r = group();
        r.broker.lose(0);
        Check.same("turn", "1", getters(r, 0));
    }

    private static void theLesserQuality() {
        Check.about("The quality is the lesser of the message's and the subscription's.");
        for (int of = 0; of < 3; of++) {
            for (int wanted = 0; wanted < 3; wanted++) {
                Rig r = pair(wanted);
                r.feed(0, Rig.publish(of << 1, "t", 9, "p"));
                r.sends(1, Rig.publish(Math.min(of, wanted) << 1, "t", 1, "p"));
                r.session(1, 2, Math.min(of, wanted) > 0 ? 1 : 0);
            }
        }
    }

    private static void retainIsNone() {
        Check.about("RETAIN is 0, but with AS PUBLISHED that of the message.");
        for (int retain = 0; retain < 2; retain++) {
            Rig r = pair(0);
            r.feed(0, Rig.publish(retain, "t", 0, "p"));
            r.sends(1, Rig.publish(0, "t", 0, "p"));
            r = pair(8);
            r.feed(0, Rig.publish(retain, "t", 0, "p"));
            r.sends(1, Rig.publish(retain, "t", 0, "p"));
            // No other one of the OPTIONS makes it so.
            r = pair(37);
            r.feed(0, Rig.publish(retain, "t", 0, "p"));
            r.sends(1, Rig.publish(0, "t", 0, "p"));
            r = pair(18);
            r.feed(0, Rig.publish(retain, "t", 0, "p"));
            r.sends(1, Rig.publish(0, "t", 0, "p"));
        }
    }

    private static void qualityNoneIfOnline() {
        Check.about("Quality 0: it is sent, if the session is ONLINE.");
        Rig r = pair(0, 33, 0, 1);
        r.feed(0, Rig.publish(4, "t", 1, "a"));
        r.sends(1, Rig.publish(0, "t", 0, "a"));
        r.broker.lose(1);
        r.feed(0, Rig.publish(4, "t", 2, "b"));
        r.session(1, 3, 0);
        r.told(5, 0);
        back(r);
        r.sends(1, Rig.connack(true));
        // It does not wait behind what WAITS, nor for MOST.
        r = pair(1, 33, 0, 1);
        r.feed(0, Rig.publish(2, "t", 1, "a"));
        r.feed(0, Rig.publish(2, "t", 1, "b"));
        r.feed(0, Rig.publish(0, "t", 0, "c"));
        r.sends(1, Rig.publish(2, "t", 1, "a"), Rig.publish(0, "t", 0, "c"));
        r.session(1, 3, 1);
    }

    private static void lessThanMost() {
        Check.about("Otherwise: if nothing WAITS, the session is ONLINE, and less than MOST [..] are ON THE WAY,"
                + " it is sent, and is ON THE WAY");
        for (int most : new int[] {1, 2, 15, 16}) {
            Rig r = pair(1, 33, Rig.two(most));
            for (int i = 1; i <= most; i++) {
                r.feed(0, Rig.publish(2, "t", 1, ""));
                r.sends(1, Rig.publish(2, "t", i, ""));
                r.session(1, 2, i);
            }
            r.feed(0, Rig.publish(2, "t", 1, ""));
            r.sends(1);
            r.session(1, 2, most);
            r.session(1, 3, 1);
        }
    }

    private static void lessThanSixteen() {
        Check.about("and less than 16, are ON THE WAY");
        for (int most : new int[] {17, 65535}) {
            Rig r = pair(1, 33, Rig.two(most));
            for (int i = 1; i <= 17; i++) {
                r.feed(0, Rig.publish(2, "t", 1, ""));
                r.sends(1, i <= 16 ? Rig.publish(2, "t", i, "") : new int[0]);
            }
            r.session(1, 2, 16);
            r.session(1, 3, 1);
        }
    }

    private static void waitsWhenNotOnline() {
        Check.about("else it WAITS");
        Rig r = pair(1);
        r.broker.lose(1);
        r.feed(0, Rig.publish(2, "t", 1, "a"));
        r.session(1, 2, 0);
        r.session(1, 3, 1);
        back(r);
        r.sends(1, Rig.connack(true), Rig.publish(2, "t", 1, "a"));
        r.session(1, 2, 1);
        r.session(1, 3, 0);
    }

    private static void droppedWhenTwentyFourWait() {
        Check.about("or, when 24 do, it is DROPPED");
        Rig r = pair(2, 33, 0, 1);
        r.feed(0, Rig.publish(2, "t", 1, "way"));
        for (int i = 1; i <= 24; i++) {
            r.feed(0, Rig.publish(2, "t", 1, "m" + i));
        }
        r.session(1, 3, 24);
        r.told(5, 0);
        r.feed(0, Rig.publish(2, "t", 1, "m25"));
        r.feed(0, Rig.publish(4, "t", 1, "m26"));
        r.session(1, 3, 24);
        r.told(5, 2);
        // One less WAITS, and there is room for one.
        r.feed(1, Rig.answer(64, 1));
        r.session(1, 3, 23);
        r.feed(0, Rig.publish(2, "t", 1, "m27"));
        r.session(1, 3, 24);
        r.told(5, 2);
        // Quality 0 does not wait, and so it is not DROPPED.
        r.feed(0, Rig.publish(0, "t", 0, "m28"));
        r.told(5, 2);
        // Nor does its LIFE make a difference when there is no room.
        r.feed(0, Rig.publish(2, "t", 1, life(0), "m29"));
        r.told(5, 3);
    }

    private static void fewerOnTheWay() {
        Check.about("Whenever there are fewer ON THE WAY, and at CONNECT, those that WAIT are sent in order");
        Rig r = pair(2, 33, 0, 1);
        for (int i = 1; i <= 5; i++) {
            r.feed(0, Rig.publish(i % 2 == 1 ? 4 : 2, "t", i, "m" + i));
        }
        r.sends(1, Rig.publish(4, "t", 1, "m1"));
        r.feed(1, Rig.answer(80, 1));
        r.sends(1, Rig.answer(98, 1));
        r.feed(1, Rig.answer(112, 1));
        r.sends(1, Rig.publish(2, "t", 1, "m2"));
        r.feed(1, Rig.answer(64, 1));
        r.sends(1, Rig.publish(4, "t", 1, "m3"));
        r.feed(1, Rig.answer(80, 1, 128));
        r.sends(1, Rig.publish(2, "t", 1, "m4"));
        r.broker.lose(1);
        back(r, 33, 0, 2);
        r.sends(1, Rig.connack(true), Rig.publish(10, "t", 1, "m4"), Rig.publish(4, "t", 2, "m5"));
    }

    private static void asLongAsTheyMay() {
        Check.about("as long as they may");
        Rig r = pair(1);
        r.broker.lose(1);
        for (int i = 1; i <= 20; i++) {
            r.feed(0, Rig.publish(2, "t", 1, ""));
        }
        back(r);
        r.session(1, 2, 16);
        r.session(1, 3, 4);
        Check.same("size", 16 + 16 * 8, r.broker.size(1));
    }

    private static void goneIsNotSent() {
        Check.about("What is gone by its LIFE is not sent (nor ON THE WAY)");
        Rig r = pair(2, 33, 0, 1);
        r.feed(0, Rig.publish(2, "t", 1, "way"));
        r.feed(0, Rig.publish(4, "t", 2, life(2), "gone"));
        r.feed(0, Rig.publish(2, "t", 3, life(3), "not yet"));
        r.broker.take(1, 99);
        r.broker.pass(2);
        r.session(1, 3, 2);
        r.feed(1, Rig.answer(64, 1));
        r.sends(1, Rig.publish(2, "t", 1, life(1), "not yet"));
        r.session(1, 2, 1);
        r.session(1, 3, 0);
        r.told(5, 0);
        // Of 0 it is gone when it comes, at once or after its turn.
        r.feed(0, Rig.publish(2, "t", 1, life(0), "waits"));
        r.session(1, 3, 1);
        r.feed(1, Rig.answer(64, 1));
        r.feed(0, Rig.publish(2, "t", 1, life(0), "now"));
        r.sends(1);
        r.session(1, 2, 0);
        r.session(1, 3, 0);
        r.told(5, 0);
    }

    private static void goneOnesMakeRoom() {
        Check.about("What is gone by its LIFE is not sent (nor ON THE WAY)");
        Rig r = pair(1);
        r.broker.lose(1);
        for (int i = 1; i <= 24; i++) {
            r.feed(0, Rig.publish(2, "t", 1, i <= 8 ? life(1) : Rig.properties(), ""));
        }
        r.broker.pass(1);
        r.session(1, 3, 24);
        back(r);
        r.session(1, 2, 16);
        r.session(1, 3, 0);
        Check.same("size", 16 + 16 * 8, r.broker.size(1));
        // All of them may be gone.
        Rig q = pair(1);
        q.broker.lose(1);
        for (int i = 1; i <= 24; i++) {
            q.feed(0, Rig.publish(2, "t", 1, life(1), ""));
        }
        q.broker.pass(1);
        back(q);
        q.sends(1, Rig.connack(true));
        q.session(1, 3, 0);
    }

    private static void moreThanSize() {
        Check.about("what has more bytes as a packet than SIZE is DROPPED");
        for (int quality = 0; quality < 3; quality++) {
            // The length of the packet has one byte, or two: both count.
            for (int length : new int[] {4, 118, 119, 120, 121}) {
                int[] fits = Rig.publish(quality << 1, "t", 1, Rig.repeat("p", length));
                Rig r = pair(quality, 39, Rig.four(fits.length));
                r.feed(0, fits);
                r.sends(1, fits);
                r.told(5, 0);
                r = pair(quality, 39, Rig.four(fits.length - 1));
                r.feed(0, fits);
                r.sends(1);
                r.told(5, 1);
                r.session(1, 2, 0);
                r.session(1, 3, 0);
                Check.same("got", 1, r.broker.subscription(1, 0, 3));
            }
        }
        // The IDENTIFIER counts, and the number takes no place from others.
        int[] publish = Rig.publish(2, "t", 1, Rig.properties(11, 9), "p");
        Rig r = pair(1, 39, Rig.four(publish.length));
        r.feed(1, Rig.packet(130, Rig.two(1), Rig.properties(11, 9), "t", 1));
        r.broker.take(1, 99);
        r.feed(0, Rig.publish(2, "t", 1, "pp"));
        r.feed(0, Rig.publish(2, "t", 1, "p"));
        r.sends(1, publish);
        r.told(5, 1);
    }

    private static void moreThanSizeWhenItIsToBeSent() {
        Check.about("is DROPPED when it is to be sent");
        Rig r = pair(1, 33, 0, 1, 39, Rig.four(10));
        r.feed(0, Rig.publish(2, "t", 1, "a"));
        r.feed(0, Rig.publish(2, "t", 1, "too long"));
        r.feed(0, Rig.publish(2, "t", 1, "too long as well"));
        r.feed(0, Rig.publish(2, "t", 1, "b"));
        r.session(1, 3, 3);
        r.told(5, 0);
        r.feed(1, Rig.answer(64, 1));
        r.sends(1, Rig.publish(2, "t", 1, "a"), Rig.publish(2, "t", 1, "b"));
        r.told(5, 2);
        r.session(1, 3, 0);
        // By the SIZE that there is then; and what is gone is not DROPPED.
        r.feed(0, Rig.publish(2, "t", 1, "long enough"));
        r.feed(0, Rig.publish(2, "t", 1, life(1), "long, but gone"));
        r.broker.lose(1);
        r.broker.pass(1);
        back(r, 39, Rig.four(18));
        r.sends(1, Rig.connack(true), Rig.publish(10, "t", 1, "b"));
        r.told(5, 3);
        r.session(1, 3, 0);
        // Quality 0 is to be sent only to one that is ONLINE.
        r.broker.lose(1);
        r.feed(0, Rig.publish(0, "t", 0, Rig.repeat("p", 99)));
        r.told(5, 3);
    }

    private static void sizeIsOfMessagesAlone() {
        Check.about("(SIZE is of messages alone)");
        Rig r = new Rig();
        r.broker.open(0);
        r.feed(0, Rig.connect("x", 0, 0, Rig.properties(39, Rig.four(1))));
        r.sends(0, Rig.connack(false));
        r.feed(0, Rig.subscribe(1, "t", 0));
        r.sends(0, Rig.suback(1, 0));
        r.feed(0, Rig.publish(2, "t", 9, ""));
        r.sends(0, Rig.answer(64, 9));
        r.told(5, 1);
        r.feed(0, Rig.unsubscribe(1, "t"));
        r.feed(0, 192, 0);
        r.feed(0, 0, 0);
        r.closedWith(0, Rig.unsuback(1, 0), new int[] {208, 0}, Rig.farewell(130));
    }

    private static void onTheWayThoughItDidNotFit() {
        Check.about("What is ON THE WAY is so also if it did not fit into OUT.");
        Rig r = pair(1);
        r.fill(1, 1998);
        r.enter(2, "z", 99);
        r.feed(2, Rig.subscribe(1, "t", 1));
        r.broker.take(2, 99);
        r.feed(0, Rig.publish(2, "t", 1, "a"));
        Check.yes("closed", !r.broker.isOpen(1));
        r.session(1, 2, 1);
        r.session(1, 3, 0);
        r.told(5, 0);
        r.sends(2, Rig.publish(2, "t", 1, "a"));
        back(r);
        r.sends(1, Rig.connack(true), Rig.publish(10, "t", 1, "a"));
        // So is what WAITED, when OUT is full before all of it is sent.
        Rig q = pair(1);
        q.broker.lose(1);
        for (int i = 0; i < 7; i++) {
            q.feed(0, Rig.publish(2, "t", 1, Rig.repeat("p", 360)));
        }
        back(q);
        Check.yes("closed", !q.broker.isOpen(1));
        Check.same("size", 16 + 5 * 369, q.broker.size(1));
        q.session(1, 2, 7);
        q.session(1, 3, 0);
    }

    private static void whatIsSent() {
        Check.about("A PUBLISH that is sent: 48 and flags; VARIABLE; the topic; its number, with a quality; properties"
                + " as it came, in the order 1, 2 (what is left of LIFE), 3, 8, 9, 11 (the subscription's IDENTIFIER,"
                + " if it has one), and all 38 in their order; the payload.");
        Rig r = pair(2);
        r.feed(1, Rig.packet(130, Rig.two(1), Rig.properties(11, 128, 1), "t", 10));
        r.broker.take(1, 99);
        r.feed(0, Rig.publish(5, "t", 300, Rig.properties(38, "b", "2", 9, "", 8, "r", 38, "a", "1", 3, "", 2,
                Rig.four(9), 35, Rig.two(4), 1, 1, 38, "", ""), "p"));
        r.sends(1, Rig.publish(5, "t", 1, Rig.properties(1, 1, 2, Rig.four(9), 3, "", 8, "r", 9, "", 11, 128, 1,
                38, "b", "2", 38, "a", "1", 38, "", ""), "p"));
        // None of them is there if it did not come.
        r.listen(1, "t", 0);
        r.broker.take(1, 99);
        r.feed(0, Rig.publish(0, "t", 0, Rig.properties(1, 0), ""));
        r.feed(0, Rig.publish(0, "t", 0, ""));
        r.sends(1, Rig.publish(0, "t", 0, Rig.properties(1, 0), ""), Rig.publish(0, "t", 0, ""));
    }

    private static void lengthsOfWhatIsSent() {
        Check.about("A PUBLISH that is sent: 48 and flags; VARIABLE");
        Rig r = pair(0);
        r.feed(0, Rig.publish(0, Rig.repeat("t", 64), 0, Rig.properties(35, Rig.two(1)), ""));
        r.enter(2, "z", 99);
        r.feed(2, Rig.packet(130, Rig.two(1), Rig.properties(11, 255, 255, 255, 127), "#", 0));
        r.broker.take(2, 99);
        // Longer than what came, by the topic that the ALIAS stands for and by the IDENTIFIER.
        int payload = 400 - 2 - 4;
        r.feed(0, Rig.publish(0, "", 0, Rig.properties(35, Rig.two(1)), Rig.repeat("p", payload)));
        int[] due = Rig.publish(0, Rig.repeat("t", 64), 0, Rig.properties(11, 255, 255, 255, 127),
                Rig.repeat("p", payload));
        Check.same("bytes", 469, due.length);
        Check.same("size", 469, r.broker.size(2));
        for (int i = 0; i < due.length; i += i < 80 ? 1 : 9) {
            Check.same("byte", due[i], r.broker.out(2, i));
        }
        Check.same("the last", 'p', r.broker.out(2, 468));
    }

    private static void numberNoneInAnAnswer() {
        Check.about("PUBACK (type 4), PUBREC (5), PUBCOMP (7; all with flags 0), PUBREL (6, flags 2) from a client:"
                + " TWO (0: 130)");
        for (int first : new int[] {64, 80, 98, 112}) {
            Rig r = pair(0);
            r.feed(1, Rig.answer(first, 0));
            r.closedWith(1, Rig.farewell(130));
            r = pair(0);
            r.feed(1, Rig.packet(first, Rig.two(0), 0, 0, 0));
            r.closedWith(1, Rig.farewell(130));
            r = pair(0);
            r.feed(1, Rig.answer(first, 65535));
            Check.yes("open", r.broker.isOpen(1));
        }
    }

    private static void reasonAndPropertiesMayLack() {
        Check.about("and, if there is more, a byte, the reason, and, if there is still more, properties 31, 38");
        int[][] behind = {{}, {0}, {0, 0}, Rig.join(0, Rig.properties(31, "")), Rig.join(255, Rig.properties(38, "", "")),
            Rig.join(0, Rig.properties(38, "", "", 31, "a", 38, "", ""))};
        for (int first : new int[] {64, 80, 98, 112}) {
            for (int[] more : behind) {
                Rig r = pair(0);
                r.feed(1, Rig.packet(first, Rig.two(9), more));
                Check.yes("open", r.broker.isOpen(1));
            }
        }
    }

    /** ON THE WAY to "y": 1 of quality 1, 2 of quality 2, 3 of quality 2 that is RELEASED. */
    private static Rig onTheWay() {
        Rig r = pair(2);
        r.feed(0, Rig.publish(2, "t", 1, "a"));
        r.feed(0, Rig.publish(4, "t", 2, "b"));
        r.feed(0, Rig.publish(4, "t", 3, "c"));
        r.feed(1, Rig.answer(80, 3));
        r.broker.take(1, 99);
        r.session(1, 2, 3);
        return r;
    }

    private static void puback() {
        Check.about("PUBACK: a message ON THE WAY with this number and quality 1 is no more ON THE WAY; else nothing.");
        Rig r = onTheWay();
        for (int number : new int[] {2, 3, 4, 65535}) {
            r.feed(1, Rig.answer(64, number));
            r.session(1, 2, 3);
        }
        r.feed(1, Rig.answer(64, 1));
        r.session(1, 2, 2);
        r.feed(1, Rig.answer(64, 1));
        r.session(1, 2, 2);
        r.sends(1);
        // Whatever the reason is.
        for (int reason : new int[] {0, 16, 127, 128, 255}) {
            r = onTheWay();
            r.feed(1, Rig.answer(64, 1, reason));
            r.session(1, 2, 2);
            r.sends(1);
        }
    }

    private static void pubrec() {
        Check.about("PUBREC: one of quality 2 is RELEASED, and PUBREL is sent");
        Rig r = onTheWay();
        r.feed(1, Rig.answer(80, 2));
        r.sends(1, Rig.answer(98, 2));
        r.session(1, 2, 3);
        r.feed(1, Rig.answer(112, 2));
        r.session(1, 2, 2);
    }

    private static void pubrecAgain() {
        Check.about("(again, if it was)");
        Rig r = onTheWay();
        r.feed(1, Rig.answer(80, 3));
        r.feed(1, Rig.answer(80, 3, 16));
        r.sends(1, Rig.answer(98, 3), Rig.answer(98, 3));
        r.session(1, 2, 3);
    }

    private static void pubrecWithAReason() {
        Check.about("with a reason of 128 or more it is no more ON THE WAY, RELEASED or not");
        for (int number = 2; number <= 3; number++) {
            for (int reason : new int[] {1, 127, 128, 255}) {
                Rig r = onTheWay();
                r.feed(1, Rig.answer(80, number, reason));
                r.session(1, 2, reason < 128 ? 3 : 2);
                r.sends(1, reason < 128 ? Rig.answer(98, number) : new int[0]);
            }
        }
    }

    private static void pubrecWithoutAMessage() {
        Check.about("without such a message PUBREL with 146");
        for (int number : new int[] {1, 4, 65535}) {
            for (int reason : new int[] {0, 127, 128, 255}) {
                Rig r = onTheWay();
                r.feed(1, Rig.answer(80, number, reason));
                r.sends(1, Rig.answer(98, number, 146));
                r.session(1, 2, 3);
            }
        }
    }

    private static void pubcomp() {
        Check.about("PUBCOMP: one that is RELEASED is no more ON THE WAY; else nothing.");
        Rig r = onTheWay();
        for (int number : new int[] {1, 2, 4, 65535}) {
            r.feed(1, Rig.answer(112, number));
            r.session(1, 2, 3);
        }
        r.feed(1, Rig.answer(112, 3, 146));
        r.session(1, 2, 2);
        r.feed(1, Rig.answer(112, 3));
        r.session(1, 2, 2);
        r.sends(1);
    }

    private static void pubrel() {
        Check.about("PUBREL: a number that is HELD is so no more, PUBCOMP; otherwise PUBCOMP with 146.");
        Rig r = pair(0);
        for (int number : new int[] {1, 256, 65535}) {
            r.feed(1, Rig.answer(98, number));
            r.sends(1, Rig.answer(112, number, 146));
            r.feed(1, Rig.publish(4, "u", number, ""));
            r.sends(1, Rig.answer(80, number, 16));
            r.session(1, 4, 1);
            // Those of another session are not meant.
            r.feed(0, Rig.answer(98, number));
            r.sends(0, Rig.answer(112, number, 146));
            r.feed(1, Rig.answer(98, number, 146));
            r.sends(1, Rig.answer(112, number));
            r.session(1, 4, 0);
            r.feed(1, Rig.answer(98, number));
            r.sends(1, Rig.answer(112, number, 146));
        }
        // The others stay HELD, whichever of them goes.
        for (int first = 1; first <= 3; first++) {
            Rig q = pair(0);
            for (int number = 1; number <= 3; number++) {
                q.feed(1, Rig.publish(4, "u", number, ""));
            }
            q.feed(1, Rig.answer(98, first));
            q.broker.take(1, 99);
            q.session(1, 4, 2);
            for (int number = 1; number <= 3; number++) {
                q.feed(1, Rig.answer(98, number));
                q.sends(1, number == first ? Rig.answer(112, number, 146) : Rig.answer(112, number));
            }
        }
    }
}
