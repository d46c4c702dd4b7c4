import java.util.Random;

/**
 * Long runs of right and wrong calls: only what the document names is ever thrown, and what the
 * broker tells of itself stays within the document's bounds.
 */
public final class RandomTest {
    private static final String[] TOPICS = {"a", "a/b", "a/b/c", "$x", "", "b", "+", "t\u00c3\u00a4"};
    private static final String[] FILTERS = {"a", "a/+", "#", "+/b/#", "$share/n/a", "$share/m/#", "b",
        "$x/#", "a#", "", "$share/n/", "a/b", "+", "t\u00c3\u00a4"};
    private static final String[] IDS = {"", "x", "y", "auto2", "zz", "id5", "id6", "id7"};
    private static final int RUNS = 2400;
    /** So few that the broker is never used for more than its 512 calls. */
    private static final int STEPS = 14;
    private final Random random;
    private final Rig rig = new Rig();
    private final TopicBroker b = rig.broker;

    private RandomTest(long seed) {
        random = new Random(seed);
    }

    public static void main(String[] args) {
        for (int run = 0; run < RUNS; run++) {
            RandomTest test = new RandomTest(run);
            for (int i = 0; i < STEPS; i++) {
                test.step();
            }
            test.bounds();
            String once = test.looks();
            Check.same("the same calls give the same answers", once, again(run));
        }
        Check.end();
    }

    private static String again(long seed) {
        RandomTest test = new RandomTest(seed);
        for (int i = 0; i < STEPS; i++) {
            test.step();
        }
        return test.looks();
    }

    private int up(int bound) {
        return random.nextInt(bound);
    }

    private String of(String[] texts) {
        return texts[up(texts.length)];
    }

    private int odd() {
        int[] values = {-1, 0, 1, 2, 3, 7, 8, 11, 12, 16, 17, 4000, 4001, Integer.MAX_VALUE, Integer.MIN_VALUE};
        return values[up(values.length)];
    }

    private void step() {
        int c = up(8);
        switch (up(12)) {
            case 0:
                guarded(() -> b.open(c));
                rig.feed(c, connect());
                break;
            case 1:
                guarded(() -> b.lose(odd()));
                break;
            case 2:
                guarded(() -> b.pass(up(3) == 0 ? odd() : up(12)));
                break;
            case 3:
                guarded(() -> b.take(odd(), odd()));
                break;
            case 4:
                guarded(() -> b.feed(odd(), random.nextLong(), random.nextLong(), odd()));
                break;
            case 5:
                looksAtOddPlaces();
                break;
            default:
                b.take(c, up(4) * 500);
                if (!b.isOpen(c)) {
                    guarded(() -> b.open(c));
                    rig.feed(c, connect());
                }
                rig.feed(c, spoiled(packet()));
        }
    }

    private void looksAtOddPlaces() {
        guarded(() -> b.isOpen(odd()));
        guarded(() -> b.size(odd()));
        guarded(() -> b.out(odd(), odd()));
        guarded(() -> b.pending(odd()));
        guarded(() -> b.isSession(odd()));
        guarded(() -> b.session(odd(), odd()));
        guarded(() -> b.expiry(odd()));
        guarded(() -> b.id(odd(), odd()));
        guarded(() -> b.subscription(odd(), odd(), odd()));
        guarded(() -> b.filter(odd(), odd(), odd()));
        guarded(() -> b.retained(odd(), odd()));
        guarded(() -> b.kept(odd(), random.nextBoolean(), odd()));
        guarded(() -> b.told(odd()));
    }

    private void guarded(Runnable call) {
        try {
            call.run();
        } catch (RuntimeException e) {
            Class<?> kind = e.getClass();
            Check.yes("thrown: " + kind, kind == IndexOutOfBoundsException.class
                    || kind == IllegalArgumentException.class || kind == IllegalStateException.class);
            StackTraceElement[] trace = e.getStackTrace();
            Check.yes("thrown by the class itself", trace[0].getClassName().equals("TopicBroker"));
        }
    }

    private int[] connect() {
        int will = up(2);
        int flags = up(2) * 2 | (will == 1 ? 4 | up(3) << 3 | up(2) << 5 : 0);
        int[] properties = Rig.properties(17, Rig.four(up(40)), 33, Rig.two(1 + up(20)), 39, Rig.four(20 + up(300)));
        int[] behind = will == 0 ? new int[0]
                : Rig.join(Rig.properties(24, Rig.four(up(6)), 2, Rig.four(up(20))), "a/b", of(TOPICS));
        return Rig.connect(of(IDS), flags, up(3) * up(20), properties, behind);
    }

    private int[] packet() {
        switch (up(10)) {
            case 0:
            case 1:
                return Rig.subscribe(1 + up(9), of(FILTERS), up(3) | up(2) << 3, of(FILTERS), up(3) | up(3) << 4);
            case 2:
                return Rig.unsubscribe(1 + up(9), of(FILTERS), of(FILTERS));
            case 3:
                return Rig.answer(64, 1 + up(5), up(2) * 200);
            case 4:
                return Rig.answer(80, 1 + up(5), up(2) * 200);
            case 5:
                return Rig.answer(up(2) == 0 ? 98 : 112, 1 + up(5));
            case 6:
                return up(4) == 0 ? Rig.packet(224, up(5), Rig.properties(17, Rig.four(up(3)))) : Rig.packet(192);
            default:
                return publish();
        }
    }

    private int[] publish() {
        int quality = up(3);
        int[] properties = {};
        if (up(2) == 0) {
            properties = Rig.join(properties, 2, Rig.four(up(9)));
        }
        if (up(3) == 0) {
            properties = Rig.join(properties, 35, Rig.two(1 + up(4)));
        }
        if (up(3) == 0) {
            properties = Rig.join(properties, 38, "k", of(TOPICS), 8, "r");
        }
        String topic = up(5) == 0 ? of(TOPICS) : TOPICS[up(3)] + (up(4) == 0 ? Integer.toString(up(30)) : "");
        return Rig.publish(quality << 1 | up(2), topic, 1 + up(12), Rig.properties(properties),
                Rig.repeat("p", up(3) * up(90)));
    }

    /** Now and then a packet has a wrong byte, or is cut. */
    private int[] spoiled(int[] packet) {
        if (up(8) == 0) {
            packet[up(packet.length)] = up(256);
        }
        return packet;
    }

    private void bounds() {
        for (int c = 0; c < 8; c++) {
            Check.yes("size", b.size(c) >= 0 && b.size(c) <= 2000);
            Check.yes("pending", b.pending(c) >= 0 && b.pending(c) < 405 && (b.isOpen(c) || b.pending(c) == 0));
        }
        int sessions = 0;
        for (int s = 0; s < 12; s++) {
            if (b.isSession(s)) {
                sessions++;
                int[] most = {7, 8, 16, 24, 8, 1, 20, 65535, 65535};
                for (int what = 0; what < 9; what++) {
                    int value = b.session(s, what);
                    Check.yes("session " + what, value >= (what == 0 ? -1 : 0) && value <= most[what]);
                }
                int c = b.session(s, 0);
                Check.yes("its connection is open", c == -1 || b.isOpen(c));
            }
        }
        rig.told(0, sessions);
        Check.yes("retained", b.told(1) <= 16);
        Check.same("behind the last", -1, b.retained(b.told(1), 0));
    }

    private String looks() {
        StringBuilder text = new StringBuilder();
        for (int what = 0; what < 8; what++) {
            text.append(b.told(what)).append(' ');
        }
        for (int c = 0; c < 8; c++) {
            text.append(b.isOpen(c)).append(b.pending(c)).append(' ');
            int size = b.size(c);
            text.append(size).append(',').append(b.out(c, 0)).append(',').append(b.out(c, size - 1));
        }
        for (int s = 0; s < 12; s++) {
            for (int what = 0; what < 9 && b.isSession(s); what++) {
                text.append(b.session(s, what)).append(',');
            }
        }
        return text.append(rig.topics()).toString();
    }
}
