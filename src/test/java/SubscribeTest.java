/** Promise 3, part 7 of the terms: SUBSCRIBE, UNSUBSCRIBE, PINGREQ, DISCONNECT. */
public final class SubscribeTest {
    public static void main(String[] args) {
        filters();
        options();
        wrongPackets();
        eightSubscriptions();
        inThePlaceOfOne();
        sameFilterTwiceInOne();
        retainedAreGiven();
        handling();
        handlingOfTheSecond();
        retainedWithQuality();
        retainedNotToShared();
        unsubscribe();
        manyEntries();
        ping();
        disconnect();
        disconnectWithExpiry();
        disconnectAndWill();
        Check.end();
    }

    private static Rig one() {
        Rig r = new Rig();
        r.enter(0, "x", 99);
        return r;
    }

    private static void filters() {
        String name = Rig.repeat("n", 55);
        String[] good = {"a", "/", "//", "+", "#", "a/+", "+/a", "+/+", "a/#", "/#", "/+", "+/#", "a/+/b/#",
            "$", "$share", "$shar/#", "$SYS/#", "$Share/a/b", Rig.repeat("f", 64), "$share/n/a", "$share/n/#",
            "$share/n/+", "$share/n//", "$share/n/a/#", "$share/$/$a", "$share/" + name + "/a",
            "$share/n/$share", "\u00c3\u00a4/#", "a b", "$share/n/$shar/x"};
        String[] bad = {"", "a#", "#a", "#/a", "a/#/b", "a+", "+a", "a/+b", "a/b+/c", "##", "++", "+#", "a/##",
            Rig.repeat("f", 65), "$share/", "$share//", "$share//a", "$share/n", "$share/n/", "$share/+/a",
            "$share/#/a", "$share/n+/a", "$share/n#", "$share/n/a#", "$share/n/#/a", "$share/n/+a",
            "$share/" + name + "/ab", "$share/n/$share/m/a", "$share/n/$share/", "$share/n/" + Rig.repeat("f", 56)};
        for (String filter : good) {
            Rig r = one();
            r.feed(0, Rig.subscribe(9, filter, 1));
            r.sends(0, Rig.suback(9, 1));
            Check.same("told", filter, r.filterOf(0, 0));
            r.feed(0, Rig.unsubscribe(10, filter, filter));
            r.sends(0, Rig.unsuback(10, 0, 17));
        }
        for (String filter : bad) {
            Rig r = one();
            r.feed(0, Rig.subscribe(9, filter, 1, "ok", 2));
            r.sends(0, Rig.suback(9, 143, 2));
            r.session(0, 1, 1);
            r.feed(0, Rig.unsubscribe(10, filter, "ok"));
            r.sends(0, Rig.unsuback(10, 143, 0));
        }
    }

    private static void options() {
        for (int options = 0; options < 256; options++) {
            boolean odd = options >= 64;
            boolean high = (options & 3) == 3 || (options & 48) == 48;
            for (String filter : new String[] {"a", "$share/n/a", "$share/", "$share"}) {
                boolean local = (options & 4) != 0 && filter.startsWith("$share/");
                Rig r = one();
                r.feed(0, Rig.subscribe(1, filter, options));
                if (odd || high || local) {
                    r.closedWith(0, Rig.farewell(odd ? 129 : 130));
                    r.session(0, 1, 0);
                } else if (filter.equals("$share/")) {
                    r.sends(0, Rig.suback(1, 143));
                } else {
                    r.sends(0, Rig.suback(1, options & 3));
                    Check.same("options", options, r.broker.subscription(0, 0, 0));
                }
            }
        }
    }

    private static void wrong(int fault, int[] packet) {
        Rig r = one();
        r.listen(0, "a", 0);
        r.feed(0, packet);
        r.closedWith(0, Rig.farewell(fault));
        r.session(0, 1, 1);
    }

    private static void wrongPackets() {
        wrong(130, Rig.packet(130, Rig.two(0), 0, "a", 0));
        wrong(130, Rig.packet(130, Rig.two(1), 0));
        wrong(130, Rig.packet(130, Rig.two(1), Rig.properties(11, 0), "a", 0));
        wrong(130, Rig.packet(130, Rig.two(1), Rig.properties(11, 1, 11, 1), "a", 0));
        wrong(130, Rig.packet(162, Rig.two(0), 0, "a"));
        wrong(130, Rig.packet(162, Rig.two(1), 0));
        wrong(130, Rig.packet(162, Rig.two(1), Rig.properties(11, 1), "a"));
        // Nothing of a packet is done when a later entry of it is wrong.
        wrong(129, Rig.subscribe(1, "b", 0, "c", 64));
        wrong(130, Rig.subscribe(1, "b", 0, "c", 3));
        wrong(129, Rig.subscribe(1, "b", 0, "\u00ff", 0));
        wrong(129, Rig.unsubscribe(1, "a", "\u00ff"));
        wrong(129, Rig.unsubscribe(1, "a", 0));
    }

    private static void eightSubscriptions() {
        Rig r = one();
        r.feed(0, Rig.subscribe(1, "a", 0, "b", 1, "c", 2, "d", 0, "e", 0, "f", 0, "g", 0));
        r.sends(0, Rig.suback(1, 0, 1, 2, 0, 0, 0, 0));
        r.feed(0, Rig.subscribe(2, "h", 0, "i", 0, "a", 1, "#/", 0, "$share/n/a", 0));
        r.sends(0, Rig.suback(2, 0, 151, 1, 143, 151));
        r.session(0, 1, 8);
        r.feed(0, Rig.unsubscribe(3, "c"));
        r.feed(0, Rig.subscribe(4, "i", 0));
        r.sends(0, Rig.unsuback(3, 0), Rig.suback(4, 0));
        StringBuilder all = new StringBuilder();
        for (int k = 0; k < 8; k++) {
            all.append(r.filterOf(0, k));
        }
        Check.same("in order", "abdefghi", all.toString());
    }

    private static void inThePlaceOfOne() {
        Rig r = one();
        r.feed(0, Rig.packet(130, Rig.two(1), Rig.properties(11, 7), "a", 1, "b", 0));
        r.broker.take(0, 99);
        r.feed(0, Rig.publish(0, "a", 0, "p"));
        Check.same("got", 1, r.broker.subscription(0, 0, 3));
        Check.same("identifier", 7, r.broker.subscription(0, 0, 1));
        r.feed(0, Rig.subscribe(2, "a", 10));
        Check.same("told", "a", r.filterOf(0, 0));
        Check.same("options", 10, r.broker.subscription(0, 0, 0));
        Check.same("identifier", 0, r.broker.subscription(0, 0, 1));
        Check.same("got", 1, r.broker.subscription(0, 0, 3));
        r.session(0, 1, 2);
        r.feed(0, Rig.unsubscribe(3, "a"));
        r.feed(0, Rig.subscribe(4, "a", 10));
        Check.same("got", 0, r.broker.subscription(0, 1, 3));
    }

    private static void sameFilterTwiceInOne() {
        Rig r = one();
        r.enter(1, "pub", 99);
        r.feed(1, Rig.publish(3, "a", 1, "p"));
        // Both are due what is RETAINED, by the OPTIONS that the later one left.
        r.feed(0, Rig.subscribe(5, "a", 0, "a", 1));
        r.sends(0, Rig.suback(5, 0, 1), Rig.publish(3, "a", 1, "p"), Rig.publish(3, "a", 2, "p"));
        Check.same("got", 2, r.broker.subscription(0, 0, 3));
        r.session(0, 1, 1);
        r.feed(0, Rig.unsubscribe(5, "a"));
        r.feed(0, Rig.subscribe(5, "a", 16, "a", 16));
        r.sends(0, Rig.unsuback(5, 0), Rig.suback(5, 0, 0), Rig.publish(1, "a", 0, "p"));
    }

    private static void retainedAreGiven() {
        Rig r = one();
        r.enter(1, "pub", 99);
        r.feed(1, Rig.publish(1, "a/1", 0, Rig.properties(2, Rig.four(10), 38, "k", "v"), "one"));
        r.feed(1, Rig.publish(1, "b/1", 0, "two"));
        r.feed(1, Rig.publish(1, "a/2", 0, "three"));
        r.feed(1, Rig.publish(1, "a/3", 0, Rig.properties(2, Rig.four(2)), "four"));
        r.broker.pass(2);
        r.feed(0, Rig.packet(130, Rig.two(5), Rig.properties(11, 9), "b/+", 0, "a/+", 4));
        r.sends(0, Rig.suback(5, 0, 0),
                Rig.publish(1, "b/1", 0, Rig.properties(11, 9), "two"),
                Rig.publish(1, "a/1", 0, Rig.properties(2, Rig.four(8), 11, 9, 38, "k", "v"), "one"),
                Rig.publish(1, "a/2", 0, Rig.properties(11, 9), "three"));
        Check.same("got", 1, r.broker.subscription(0, 0, 3));
        Check.same("got", 2, r.broker.subscription(0, 1, 3));
        r.told(4, 4);
        noLocalDoesNotMatter();
    }

    private static void noLocalDoesNotMatter() {
        Rig r = one();
        r.feed(0, Rig.publish(1, "a", 0, "mine"));
        r.feed(0, Rig.subscribe(5, "a", 4));
        r.sends(0, Rig.suback(5, 0), Rig.publish(1, "a", 0, "mine"));
    }

    private static void handling() {
        int[] given = Rig.publish(1, "a", 0, "p");
        int[] none = {};
        for (int handling = 0; handling < 3; handling++) {
            Rig r = one();
            r.feed(0, Rig.publish(1, "a", 0, "p"));
            r.feed(0, Rig.subscribe(1, "a", 16 * handling));
            r.sends(0, Rig.suback(1, 0), handling < 2 ? given : none);
            r.feed(0, Rig.subscribe(1, "a", 16 * handling));
            r.sends(0, Rig.suback(1, 0), handling < 1 ? given : none);
            r.broker.lose(0);
            r.enter(0, "x", 99);
            r.feed(0, Rig.subscribe(1, "a", 16 * handling));
            r.sends(0, Rig.suback(1, 0), handling < 1 ? given : none);
            r.feed(0, Rig.unsubscribe(1, "a"));
            r.feed(0, Rig.subscribe(1, "a", 16 * handling));
            r.sends(0, Rig.unsuback(1, 0), Rig.suback(1, 0), handling < 2 ? given : none);
        }
    }

    private static void handlingOfTheSecond() {
        int[] given = Rig.publish(1, "a", 0, "p");
        Rig r = one();
        r.feed(0, Rig.publish(1, "a", 0, "p"));
        r.feed(0, Rig.subscribe(1, "a", 16, "a", 32));
        r.sends(0, Rig.suback(1, 0, 0), given);
        r.feed(0, Rig.unsubscribe(1, "a"));
        r.feed(0, Rig.subscribe(1, "a", 32, "a", 0));
        r.sends(0, Rig.unsuback(1, 0), Rig.suback(1, 0, 0), given);
    }

    private static void retainedWithQuality() {
        Rig r = new Rig();
        r.enter(0, Rig.connect("x", 0, 0, Rig.properties(17, Rig.four(9), 33, Rig.two(1), 39, Rig.four(20))));
        r.enter(1, "pub", 99);
        r.feed(1, Rig.publish(5, "a", 1, "one"));
        r.feed(1, Rig.publish(3, "b", 2, "two"));
        r.feed(1, Rig.publish(1, "c", 0, "three"));
        r.feed(1, Rig.publish(1, "d", 0, "this one is too long"));
        r.feed(0, Rig.subscribe(1, "#", 2));
        r.sends(0, Rig.suback(1, 2), Rig.publish(5, "a", 1, "one"), Rig.publish(1, "c", 0, "three"));
        r.session(0, 2, 1);
        r.session(0, 3, 1);
        r.told(5, 1);
        Check.same("got", 4, r.broker.subscription(0, 0, 3));
        r.feed(0, Rig.answer(80, 1));
        r.feed(0, Rig.answer(112, 1));
        r.sends(0, Rig.answer(98, 1), Rig.publish(3, "b", 1, "two"));
    }

    private static void retainedNotToShared() {
        Rig r = one();
        r.feed(0, Rig.publish(1, "a", 0, "p"));
        r.feed(0, Rig.subscribe(1, "$share/n/a", 0));
        r.sends(0, Rig.suback(1, 0));
        Check.same("got", 0, r.broker.subscription(0, 0, 3));
    }

    private static void unsubscribe() {
        Rig r = one();
        r.feed(0, Rig.subscribe(1, "a", 1, "$share/n/a", 0, "b", 0));
        r.feed(0, Rig.packet(162, Rig.two(700), Rig.properties(38, "k", "v"), "a", "a", "c", "$share/n/a", "$share/m/a"));
        r.sends(0, Rig.suback(1, 1, 0, 0), Rig.unsuback(700, 0, 17, 17, 0, 17));
        Check.same("left", "b", r.filterOf(0, 0));
        r.session(0, 1, 1);
        r.feed(0, Rig.publish(2, "a", 1, "p"));
        r.sends(0, Rig.answer(64, 1, 16));
        // What WAITS for the session stays when its subscription goes.
        r.enter(1, "pub", 99);
        r.listen(0, "b", 1);
        r.broker.lose(0);
        r.feed(1, Rig.publish(2, "b", 1, "p"));
        r.session(0, 3, 1);
        r.enter(0, "x", 99);
        r.feed(0, Rig.unsubscribe(1, "b"));
        r.session(0, 2, 1);
    }

    private static void manyEntries() {
        Rig r = one();
        int[] entries = {};
        int[] reasons = {};
        for (int i = 0; i < 132; i++) {
            entries = Rig.join(entries, "", 0);
            reasons = Rig.join(reasons, 143);
        }
        r.feed(0, Rig.subscribe(1, entries));
        r.sends(0, Rig.suback(1, reasons));
        entries = new int[] {};
        reasons = new int[] {};
        for (int i = 0; i < 198; i++) {
            entries = Rig.join(entries, "");
            reasons = Rig.join(reasons, 143);
        }
        r.feed(0, Rig.unsubscribe(1, entries));
        r.sends(0, Rig.unsuback(1, reasons));
    }

    private static void ping() {
        Rig r = one();
        Check.same("taken", 1, r.feed(0, 192, 0));
        r.sends(0, new int[] {208, 0});
    }

    private static void disconnect() {
        int[][] fine = {{224, 0}, {224, 1, 0}, {224, 1, 4}, {224, 1, 255}, {224, 2, 0, 0},
            Rig.packet(224, 0, Rig.properties(31, "bye", 38, "k", "v", 38, "k", "v"))};
        for (int[] packet : fine) {
            Rig r = one();
            Check.same("taken", 1, r.feed(0, packet));
            r.closedWith(0);
            r.session(0, 0, -1);
            Check.same("expiry", 99, r.broker.expiry(0));
            r.told(3, 1);
        }
    }

    private static void disconnectWithExpiry() {
        for (long told : new long[] {0, 1, 50, Rig.NEVER}) {
            Rig r = one();
            r.feed(0, Rig.packet(224, 0, Rig.properties(17, Rig.four(told))));
            r.closedWith(0);
            Check.yes("there", r.broker.isSession(0) == (told != 0));
            if (told != 0) {
                Check.same("expiry", told, r.broker.expiry(0));
            }
            Rig q = new Rig();
            q.enter(0, Rig.connect("x", 4, 0, Rig.properties(), 0, "w", "p"));
            q.feed(0, Rig.packet(224, 0, Rig.properties(17, Rig.four(told))));
            // A fault keeps the will, which comes then.
            q.closedWith(0, told == 0 ? new int[0] : Rig.farewell(130));
            q.told(4, told == 0 ? 0 : 1);
            q.told(0, 0);
        }
    }

    private static void disconnectAndWill() {
        for (int reason = -1; reason < 6; reason++) {
            Rig r = new Rig();
            r.enter(0, Rig.connect("x", 4, 0, Rig.expiry(9), 0, "w", "p"));
            r.feed(0, reason < 0 ? Rig.packet(224) : Rig.packet(224, reason));
            r.closedWith(0);
            r.told(4, reason > 0 ? 1 : 0);
            r.session(0, 5, 0);
        }
        // EXPIRY of 0 ends the session at once, and so the will need not be waited for.
        Rig r = new Rig();
        r.enter(0, Rig.connect("x", 4, 0, Rig.expiry(9), Rig.properties(24, Rig.four(5)), "w", "p"));
        r.feed(0, Rig.packet(224, 4, Rig.properties(17, Rig.four(0))));
        r.told(4, 1);
        r.told(0, 0);
    }
}
