import java.util.Arrays;

/** A broker with clients: it writes their packets, feeds them, and compares what is sent to them. */
final class Rig {
    static final long NEVER = 4294967295L;
    final TopicBroker broker = new TopicBroker();

    // ---- bytes

    /** A number is a byte, a text a STRING, a row of numbers stands for itself. */
    static int[] join(Object... parts) {
        int[] all = new int[0];
        for (Object part : parts) {
            int[] more = part instanceof Integer ? new int[] {(Integer) part}
                    : part instanceof String ? string((String) part) : (int[]) part;
            all = Arrays.copyOf(all, all.length + more.length);
            System.arraycopy(more, 0, all, all.length - more.length, more.length);
        }
        return all;
    }

    static int[] raw(String text) {
        int[] bytes = new int[text.length()];
        for (int i = 0; i < bytes.length; i++) {
            bytes[i] = text.charAt(i);
        }
        return bytes;
    }

    static int[] string(String text) {
        return join(two(text.length()), raw(text));
    }

    static int[] two(int value) {
        return new int[] {value >> 8 & 255, value & 255};
    }

    static int[] four(long value) {
        return join(two((int) (value >> 16)), two((int) value));
    }

    static int[] variable(int value) {
        return value < 128 ? new int[] {value} : join(value & 127 | 128, variable(value >> 7));
    }

    static int[] packet(int first, Object... parts) {
        int[] body = join(parts);
        return join(first, variable(body.length), body);
    }

    static int[] properties(Object... parts) {
        int[] body = join(parts);
        return join(variable(body.length), body);
    }

    static String repeat(String text, int times) {
        return text.repeat(times);
    }

    // ---- packets of clients

    static int[] connect(String id, int flags, int keep, int[] properties, Object... behind) {
        return packet(16, "MQTT", 5, flags, two(keep), properties, id, join(behind));
    }

    static int[] expiry(long seconds) {
        return properties(17, four(seconds));
    }

    static int[] publish(int flags, String topic, int number, int[] properties, String payload) {
        int[] told = (flags & 6) == 0 ? new int[0] : two(number);
        return packet(48 | flags, topic, told, properties, raw(payload));
    }

    static int[] publish(int flags, String topic, int number, String payload) {
        return publish(flags, topic, number, properties(), payload);
    }

    static int[] subscribe(int number, Object... entries) {
        return packet(130, two(number), 0, join(entries));
    }

    static int[] unsubscribe(int number, Object... entries) {
        return packet(162, two(number), 0, join(entries));
    }

    static int[] answer(int first, int number) {
        return packet(first, two(number));
    }

    static int[] answer(int first, int number, int reason) {
        return packet(first, two(number), reason);
    }

    // ---- packets of the broker

    static int[] connack(boolean present) {
        return packet(32, present ? 1 : 0, 0, 11, 33, two(8), 39, four(403), 34, two(4));
    }

    static int[] connack(String made) {
        return packet(32, 0, 0, 14 + made.length(), 33, two(8), 39, four(403), 34, two(4), 18, made);
    }

    static int[] refusal(int fault) {
        return join(32, 3, 0, fault, 0);
    }

    static int[] farewell(int reason) {
        return join(224, 2, reason, 0);
    }

    static int[] suback(int number, Object... reasons) {
        return packet(144, two(number), 0, join(reasons));
    }

    static int[] unsuback(int number, Object... reasons) {
        return packet(176, two(number), 0, join(reasons));
    }

    // ---- what is done

    /** Feeds all, as long as the connection is open: how many packets were taken. */
    int feed(int connection, int... bytes) {
        return feedBy(16, connection, bytes);
    }

    int feedBy(int step, int connection, int... bytes) {
        int taken = 0;
        for (int i = 0; i < bytes.length && broker.isOpen(connection); i += step) {
            int n = Math.min(step, bytes.length - i);
            long[] halves = new long[2];
            for (int k = 0; k < n; k++) {
                halves[k / 8] |= (long) bytes[i + k] << 8 * (k % 8);
            }
            taken += broker.feed(connection, halves[0], halves[1], n);
        }
        return taken;
    }

    /** A client comes to stay: EXPIRY as told, no KEEP, no will; its CONNACK is taken. */
    void enter(int connection, String id, long expiry) {
        enter(connection, connect(id, 0, 0, expiry(expiry)));
    }

    void enter(int connection, int[] connect) {
        broker.open(connection);
        Check.same("CONNECT is taken", 1, feed(connection, connect));
        Check.yes("it is let in", broker.isOpen(connection));
        broker.take(connection, 5000);
    }

    /** Subscribes, and takes away what is sent thereby. */
    void listen(int connection, String filter, int options) {
        feed(connection, subscribe(1, filter, options));
        broker.take(connection, 5000);
    }

    /** Fills OUT of a client with PINGRESP up to some bytes, eight of them with a call. */
    void fill(int connection, int bytes) {
        int pings = (bytes - broker.size(connection)) / 2;
        for (int left = pings; left > 0; left -= 8) {
            broker.feed(connection, 0x00C000C000C000C0L, 0x00C000C000C000C0L, 2 * Math.min(left, 8));
        }
    }

    // ---- what is seen

    /** OUT has just these bytes; they are taken. */
    void sends(int connection, int[]... packets) {
        int[] due = join((Object[]) packets);
        int[] got = new int[broker.size(connection)];
        for (int i = 0; i < got.length; i++) {
            got[i] = broker.out(connection, i);
        }
        Check.same("OUT of " + connection, Arrays.toString(due), Arrays.toString(got));
        broker.take(connection, got.length);
    }

    void closedWith(int connection, int[]... packets) {
        Check.yes("connection " + connection + " is closed", !broker.isOpen(connection));
        sends(connection, packets);
    }

    void session(int session, int what, int due) {
        Check.same("session " + session + ", " + what, due, broker.session(session, what));
    }

    void told(int what, int due) {
        Check.same("told " + what, due, broker.told(what));
    }

    String idOf(int session) {
        StringBuilder text = new StringBuilder();
        for (int i = 0; i < broker.session(session, 6); i++) {
            text.append((char) broker.id(session, i));
        }
        return text.toString();
    }

    String filterOf(int session, int k) {
        StringBuilder text = new StringBuilder();
        for (int i = 0; i < broker.subscription(session, k, 2); i++) {
            text.append((char) broker.filter(session, k, i));
        }
        return text.toString();
    }

    String keptOf(int i, boolean payload) {
        StringBuilder text = new StringBuilder();
        for (int k = 0; k < broker.retained(i, payload ? 1 : 0); k++) {
            text.append((char) broker.kept(i, payload, k));
        }
        return text.toString();
    }

    /** Topics of all RETAINED messages, in their order. */
    String topics() {
        StringBuilder text = new StringBuilder();
        for (int i = 0; i < broker.told(1); i++) {
            text.append(i > 0 ? " " : "").append(keptOf(i, false));
        }
        return text.toString();
    }
}
