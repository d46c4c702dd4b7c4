/** The examples of README.md answer what it says beside them. */
public final class ReadmeTest {
    public static void main(String[] args) {
        TopicBroker broker = new TopicBroker();
        oneClient(broker);
        subscribesAndPublishes(broker);
        whatThrows(broker);
        Check.end();
    }

    private static void oneClient(TopicBroker broker) {
        broker.open(0);
        Check.same("taken", 1, broker.feed(0, 0x5454514D04000E10L, 0x6101000000000205L, 16));
        Check.same("size", 16, broker.size(0));
        Check.same("first byte", 32, broker.out(0, 0));
        Check.same("left", 0, broker.take(0, 16));
        Check.same("ended", 0, broker.pass(10));
        Check.yes("the session is there", broker.isSession(0));
        Check.same("its id", 'a', broker.id(0, 0));
    }

    private static void subscribesAndPublishes(TopicBroker broker) {
        send(broker, 0, 130, 7, 0, 1, 0, 0, 1, 't', 0);
        comes(broker, 144, 4, 0, 1, 0, 0);
        send(broker, 0, 48, 6, 0, 1, 't', 0, 'h', 'i');
        comes(broker, 48, 6, 0, 1, 't', 0, 'h', 'i');
        int[] longer = {48, 18, 0, 1, 't', 0, 1, 2, 3, 4, 5, 6, 7, 8, 9, 10, 11, 12, 13, 255};
        send(broker, 0, longer);
        comes(broker, longer);
    }

    private static void whatThrows(TopicBroker broker) {
        Check.same("no such byte", TopicBroker.NONE, broker.out(0, 0));
        Check.refuses(IndexOutOfBoundsException.class, () -> broker.open(8));
        Check.refuses(IllegalArgumentException.class, () -> broker.pass(4001));
        Check.refuses(IllegalStateException.class, () -> broker.open(0));
        Check.refuses(IllegalStateException.class, () -> broker.lose(1));
        send(broker, 0, 240, 0, 192, 0);
        comes(broker, 224, 2, 130, 0);
        Check.yes("it is closed", !broker.isOpen(0));
    }

    private static void comes(TopicBroker broker, int... due) {
        Check.same("size", due.length, broker.size(0));
        for (int i = 0; i < due.length; i++) {
            Check.same("byte " + i, due[i], broker.out(0, i));
        }
        broker.take(0, due.length);
    }

    /** As in README.md. */
    private static void send(TopicBroker broker, int connection, int... bytes) {
        for (int from = 0; from < bytes.length && broker.isOpen(connection); from += 16) {
            int n = Math.min(16, bytes.length - from);
            long a = 0;
            long b = 0;
            for (int i = 0; i < n; i++) {
                if (i < 8) {
                    a |= (long) bytes[from + i] << 8 * i;
                } else {
                    b |= (long) bytes[from + i] << 8 * (i - 8);
                }
            }
            broker.feed(connection, a, b, n);
        }
    }
}
