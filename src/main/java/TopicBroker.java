import java.util.Arrays;

/** A broker of messages, after MQTT 5; ../shared/DOC.md says what each call of its face does. */
public final class TopicBroker {
    public static final int NONE = -1;

    private static final int CONNECTIONS = 8;
    private static final int SESSIONS = 12;
    private static final int SUBSCRIPTIONS = 8;
    private static final int ON_THE_WAY = 16;
    private static final int WAITING = 24;
    private static final int HELD = 8;
    private static final int RETAINED = 16;
    private static final int ALIASES = 4;
    private static final int OUT = 2000;
    private static final int FOLLOWING = 400;
    /** A first byte, a VARIABLE of four, and what follows. */
    private static final int PACKET = 5 + FOLLOWING;
    /** More than any packet has that the broker sends. */
    private static final int BODY = 600;
    /** More than the entries of any SUBSCRIBE: each has three bytes at least. */
    private static final int ENTRIES = FOLLOWING / 3;
    private static final int LONGEST_TOPIC = 64;
    private static final int LONGEST_ID = 20;
    private static final int MOST_FEED = 16;
    private static final int MOST_SECONDS = 4000;
    private static final int KEYS = 40;
    private static final long NEVER = 4294967295L;
    /** Later than any second that there can be. */
    private static final long FAR_OFF = 1L << 40;
    private static final int LARGEST = 2147483647;

    /** What a byte or a packet leads to, when it is no fault: faults are 129 and more. */
    private static final int FINE = 0;
    private static final int MORE = 1;
    private static final int WHOLE = 2;
    private static final int ENTERS = 3;
    private static final int LEAVES = 4;

    private static final int MALFORMED = 129;
    private static final int WRONG = 130;
    private static final int OTHER_PROTOCOL = 132;
    private static final int BAD_ID = 133;
    private static final int BAD_LOGIN = 140;
    private static final int TOO_QUIET = 141;
    private static final int TAKEN_OVER = 142;
    private static final int BAD_FILTER = 143;
    private static final int BAD_TOPIC = 144;
    private static final int NO_SUCH_NUMBER = 146;
    private static final int TOO_MANY_HELD = 147;
    private static final int BAD_ALIAS = 148;
    private static final int TOO_LONG = 149;
    private static final int NO_ROOM = 151;
    private static final int NOBODY = 16;
    private static final int NO_SUBSCRIPTION = 17;

    private static final int CONNACK = 32;
    private static final int PUBLISH = 48;
    private static final int PUBACK = 64;
    private static final int PUBREC = 80;
    private static final int PUBREL = 98;
    private static final int PUBCOMP = 112;
    private static final int SUBACK = 144;
    private static final int UNSUBACK = 176;
    private static final int PINGRESP = 208;
    private static final int DISCONNECT = 224;

    private static final int NO_LOCAL = 4;
    private static final int AS_PUBLISHED = 8;

    private static final String SHARED = "$share/";
    private static final String PROTOCOL = "MQTT";
    private static final String AUTO = "auto";

    private static final long OF_MESSAGES = 1L << 1 | 1L << 2 | 1L << 3 | 1L << 8 | 1L << 9 | 1L << 38;
    private static final long OF_PUBLISH = OF_MESSAGES | 1L << 35;
    private static final long OF_WILL = OF_MESSAGES | 1L << 24;
    private static final long OF_CONNECT = 1L << 17 | 1L << 21 | 1L << 22 | 1L << 23 | 1L << 25
            | 1L << 33 | 1L << 34 | 1L << 38 | 1L << 39;
    private static final long OF_ANSWER = 1L << 31 | 1L << 38;
    private static final long OF_SUBSCRIBE = 1L << 11 | 1L << 38;
    private static final long OF_UNSUBSCRIBE = 1L << 38;
    private static final long OF_DISCONNECT = 1L << 17 | 1L << 31 | 1L << 38;

    private static final int[] BEFORE_LIFE = {1};
    private static final int[] BEHIND_LIFE = {3, 8, 9};

    private final Connection[] connections;
    private final Session[] sessions;
    private final Retained store;
    private final Reader in;
    private final Properties properties;
    private final Writer writer;
    private final Greeting greeting;
    /** What is sent with quality 0 is kept nowhere, so one object does for all of it. */
    private final Delivery passing;
    /** For each entry of a SUBSCRIBE the subscription that is to get RETAINED messages, or NONE. */
    private final int[] owed;
    private int time;
    private int taken;
    private int distributed;
    private int dropped;
    private int ended;
    private int made;
    private int lastAuto;

    public TopicBroker() {
        connections = new Connection[CONNECTIONS];
        for (int i = 0; i < CONNECTIONS; i++) {
            connections[i] = new Connection(i);
        }
        sessions = new Session[SESSIONS];
        store = new Retained();
        in = new Reader();
        properties = new Properties();
        writer = new Writer();
        greeting = new Greeting();
        passing = new Delivery();
        owed = new int[ENTRIES];
    }

    // ---- connections

    public void open(int connection) throws IndexOutOfBoundsException, IllegalStateException {
        Connection c = connectionOf(connection);
        if (c.open) {
            throw new IllegalStateException();
        }
        c.begin();
    }

    public int feed(int connection, long a, long b, int n)
            throws IndexOutOfBoundsException, IllegalArgumentException, IllegalStateException {
        Connection c = connectionOf(connection);
        if (n < 1 || n > MOST_FEED) {
            throw new IllegalArgumentException();
        }
        if (!c.open) {
            throw new IllegalStateException();
        }
        int before = taken;
        for (int i = 0; i < n && c.open; i++) {
            long half = i < 8 ? a : b;
            int state = c.accept((int) (half >>> 8 * (i & 7)) & 255);
            if (state != MORE) {
                if (state == WHOLE) {
                    state = obey(c);
                }
                if (state == ENTERS) {
                    enter(c);
                } else if (state == LEAVES) {
                    lost(c);
                } else if (state != FINE) {
                    refuse(c, state);
                }
                settle();
            }
        }
        return taken - before;
    }

    public void lose(int connection) throws IndexOutOfBoundsException, IllegalStateException {
        Connection c = connectionOf(connection);
        if (!c.open) {
            throw new IllegalStateException();
        }
        lost(c);
        settle();
    }

    public boolean isOpen(int connection) throws IndexOutOfBoundsException {
        return connectionOf(connection).open;
    }

    public int size(int connection) throws IndexOutOfBoundsException {
        return connectionOf(connection).used;
    }

    public int out(int connection, int i) throws IndexOutOfBoundsException {
        Connection c = connectionOf(connection);
        return i >= 0 && i < c.used ? c.sending[i] : NONE;
    }

    public int take(int connection, int n) throws IndexOutOfBoundsException, IllegalArgumentException {
        Connection c = connectionOf(connection);
        if (n < 0) {
            throw new IllegalArgumentException();
        }
        c.drop(Math.min(n, c.used));
        return c.used;
    }

    public int pending(int connection) throws IndexOutOfBoundsException {
        return connectionOf(connection).come;
    }

    // ---- time

    public int pass(int seconds) throws IllegalArgumentException {
        if (seconds < 0 || seconds > MOST_SECONDS) {
            throw new IllegalArgumentException();
        }
        int end = time + seconds;
        ended = 0;
        for (int i = 0; i < seconds && time < end; i++) {
            time = (int) Math.min(end, nextEvent());
            tick();
            settle();
        }
        return ended;
    }

    // ---- what there is

    public boolean isSession(int session) {
        return session >= 0 && session < SESSIONS && sessions[session] != null;
    }

    public int session(int session, int what) throws IndexOutOfBoundsException, IllegalArgumentException {
        Session s = sessionOf(session);
        switch (what) {
            case 0:
                return s.connection == null ? NONE : s.connection.number;
            case 1:
                return s.subscribed;
            case 2:
                return s.travelling;
            case 3:
                return s.queued;
            case 4:
                return s.holding;
            case 5:
                return s.will == null ? 0 : 1;
            case 6:
                return s.id.count();
            case 7:
                return s.keep;
            case 8:
                return s.most;
            default:
                throw new IllegalArgumentException();
        }
    }

    public long expiry(int session) throws IndexOutOfBoundsException {
        return sessionOf(session).expiry;
    }

    public int id(int session, int i) throws IndexOutOfBoundsException {
        return sessionOf(session).id.at(i);
    }

    public int subscription(int session, int k, int what)
            throws IndexOutOfBoundsException, IllegalArgumentException {
        Subscription wanted = subscriptionOf(session, k);
        switch (what) {
            case 0:
                return wanted.options;
            case 1:
                return wanted.identifier;
            case 2:
                return wanted.told.count();
            case 3:
                return wanted.got;
            default:
                throw new IllegalArgumentException();
        }
    }

    public int filter(int session, int k, int i) throws IndexOutOfBoundsException {
        return subscriptionOf(session, k).told.at(i);
    }

    public int retained(int i, int what) throws IllegalArgumentException {
        if (what < 0 || what > 3) {
            throw new IllegalArgumentException();
        }
        Message m = store.get(i);
        if (m == null) {
            return NONE;
        }
        switch (what) {
            case 0:
                return m.topic.count();
            case 1:
                return m.payload.count();
            case 2:
                return m.quality;
            default:
                return m.life == NONE ? NONE : (int) Math.min(LARGEST, m.left(time));
        }
    }

    public int kept(int i, boolean payload, int k) {
        Message m = store.get(i);
        if (m == null) {
            return NONE;
        }
        return payload ? m.payload.at(k) : m.topic.at(k);
    }

    public int told(int what) throws IllegalArgumentException {
        switch (what) {
            case 0:
                return countSessions();
            case 1:
                return store.count;
            case 2:
                return taken;
            case 3:
                return countSent();
            case 4:
                return distributed;
            case 5:
                return dropped;
            case 6:
                return time;
            case 7:
                return made;
            default:
                throw new IllegalArgumentException();
        }
    }

    // ---- what the calls name

    private Connection connectionOf(int number) {
        if (number < 0 || number >= CONNECTIONS) {
            throw new IndexOutOfBoundsException();
        }
        return connections[number];
    }

    private Session sessionOf(int number) {
        if (number < 0 || number >= SESSIONS || sessions[number] == null) {
            throw new IndexOutOfBoundsException();
        }
        return sessions[number];
    }

    private Subscription subscriptionOf(int number, int k) {
        Session s = sessionOf(number);
        if (k < 0 || k >= s.subscribed) {
            throw new IndexOutOfBoundsException();
        }
        return s.subscriptions[k];
    }

    private int countSessions() {
        int count = 0;
        for (int i = 0; i < SESSIONS; i++) {
            if (sessions[i] != null) {
                count++;
            }
        }
        return count;
    }

    private int countSent() {
        int count = 0;
        for (int i = 0; i < CONNECTIONS; i++) {
            count += connections[i].sent;
        }
        return count;
    }

    // ---- packets

    /**
     * Reads the whole packet of a connection and does what it asks. Entering and leaving are left
     * to the caller: wills may come in them, and the calls would go too deep from here.
     */
    private int obey(Connection c) {
        taken++;
        c.last = time;
        in.begin(c.packet, c.head, c.whole);
        int type = c.type();
        int flags = c.packet[0] & 15;
        if (type == 1 && c.session == null) {
            greeting.read(in, properties, flags);
            return greeted();
        }
        Session s = c.session;
        if (s == null) {
            return WRONG;
        }
        switch (type) {
            case 3:
                return publish(c, s, flags);
            case 4:
            case 5:
            case 6:
            case 7:
                return answered(c, s, type, flags);
            case 8:
                return subscribe(c, s, flags);
            case 10:
                return unsubscribe(c, s, flags);
            case 12:
                return ping(c, flags);
            case 14:
                return leave(s, flags);
            default:
                return WRONG;
        }
    }

    private void refuse(Connection c, int fault) {
        if (c.session != null) {
            sayFarewell(c, fault);
        } else if (c.type() == 1) {
            writer.begin(CONNACK);
            writer.one(0);
            writer.one(fault);
            writer.one(0);
            c.put(writer);
        }
        lost(c);
    }

    private void sayFarewell(Connection c, int reason) {
        writer.begin(DISCONNECT);
        writer.one(reason);
        writer.one(0);
        c.put(writer);
    }

    private void answer(Connection c, int first, int number, int reason) {
        writer.begin(first);
        writer.two(number);
        if (reason != 0) {
            writer.one(reason);
        }
        c.put(writer);
    }

    private int ping(Connection c, int flags) {
        in.expect(flags, 0);
        in.finish();
        if (in.fault != FINE) {
            return in.fault;
        }
        writer.begin(PINGRESP);
        c.put(writer);
        return FINE;
    }

    private int leave(Session s, int flags) {
        in.expect(flags, 0);
        properties.clear();
        int reason = 0;
        if (in.left() > 0) {
            reason = in.one();
        }
        if (in.left() > 0) {
            properties.read(in, OF_DISCONNECT);
        }
        in.finish();
        long wanted = properties.get(17, s.expiry);
        if (wanted != 0 && s.expiry == 0) {
            in.fail(WRONG);
        }
        if (in.fault != FINE) {
            return in.fault;
        }
        s.expiry = wanted;
        if (reason == 0) {
            s.will = null;
        }
        return LEAVES;
    }

    // ---- CONNECT

    private int greeted() {
        if (in.fault == FINE && countSessions() == SESSIONS && find(greeting.id) == null) {
            in.fail(NO_ROOM);
        }
        return in.fault == FINE ? ENTERS : in.fault;
    }

    private Session find(Row id) {
        for (int i = 0; i < SESSIONS; i++) {
            Session s = sessions[i];
            if (s != null && s.id.same(id)) {
                return s;
            }
        }
        return null;
    }

    private void enter(Connection c) {
        boolean auto = greeting.id.count() == 0;
        Row id = auto ? makeId() : greeting.id;
        Session s = find(id);
        if (s != null && s.connection != null) {
            sayFarewell(s.connection, TAKEN_OVER);
            lost(s.connection);
            s = find(id);
        }
        if (s != null && greeting.clean) {
            end(s);
            s = null;
        }
        boolean goesOn = s != null;
        if (s == null) {
            s = makeSession(id);
        }
        if (s == null) {
            return;
        }
        greeting.applyTo(s);
        s.connection = c;
        c.session = s;
        welcome(c, goesOn, auto, id);
        sendAgain(s, c);
        goOn(s);
    }

    private Row makeId() {
        made++;
        Row id = autoId();
        for (int i = 0; i < SESSIONS && find(id) != null; i++) {
            id = autoId();
        }
        return id;
    }

    private Row autoId() {
        lastAuto++;
        int figures = 1;
        for (int rest = lastAuto / 10; rest > 0; rest /= 10) {
            figures++;
        }
        int[] bytes = new int[AUTO.length() + figures];
        for (int i = 0; i < AUTO.length(); i++) {
            bytes[i] = AUTO.charAt(i);
        }
        int rest = lastAuto;
        for (int i = bytes.length - 1; i >= AUTO.length(); i--) {
            bytes[i] = '0' + rest % 10;
            rest /= 10;
        }
        return new Row(bytes);
    }

    private Session makeSession(Row id) {
        for (int i = 0; i < SESSIONS; i++) {
            if (sessions[i] == null) {
                sessions[i] = new Session(i, id);
                return sessions[i];
            }
        }
        return null;
    }

    private void welcome(Connection c, boolean goesOn, boolean auto, Row id) {
        writer.begin(CONNACK);
        writer.one(goesOn ? 1 : 0);
        writer.one(0);
        writer.variable(auto ? 11 + 3 + id.count() : 11);
        writer.one(33);
        writer.two(HELD);
        writer.one(39);
        writer.four(FOLLOWING + 3);
        writer.one(34);
        writer.two(ALIASES);
        if (auto) {
            writer.one(18);
            writer.two(id.count());
            writer.raw(id);
        }
        c.put(writer);
    }

    private void sendAgain(Session s, Connection c) {
        int k = 0;
        for (int i = 0; i < ON_THE_WAY && k < s.travelling; i++) {
            Delivery d = s.way[k];
            if (d.released) {
                answer(c, PUBREL, d.number, 0);
            } else {
                deliver(s, d, true);
            }
            if (k < s.travelling && s.way[k] == d) {
                k++;
            }
        }
    }

    // ---- PUBLISH

    private int publish(Connection c, Session s, int flags) {
        int quality = flags >> 1 & 3;
        if (quality == 3 || flags >= 8 && quality == 0) {
            in.fail(MALFORMED);
        }
        Row topic = in.row(true);
        if (topic.count() > 0 && !topic.isTopic()) {
            in.fail(BAD_TOPIC);
        }
        int number = quality > 0 ? in.number() : 0;
        properties.read(in, OF_PUBLISH);
        properties.checkResponse(in);
        int alias = (int) properties.get(35, 0);
        if (properties.has(35) && (alias < 1 || alias > ALIASES)) {
            in.fail(BAD_ALIAS);
        }
        if (in.fault == FINE) {
            topic = c.resolve(topic, alias);
        }
        if (topic == null) {
            in.fail(WRONG);
        }
        if (in.fault != FINE) {
            return in.fault;
        }
        if (quality == 2 && s.holds(number)) {
            answer(c, PUBREC, number, 0);
            return FINE;
        }
        if (quality == 2 && s.holding == HELD) {
            return TOO_MANY_HELD;
        }
        Message m = properties.message(topic, in.rest(), quality, (flags & 1) == 1);
        m.came = time;
        carry(c, s, m, number);
        return FINE;
    }

    private void carry(Connection c, Session s, Message m, int number) {
        int reason = NO_ROOM;
        if (!m.retain || store.keep(m, time)) {
            reason = distribute(m, s) ? 0 : NOBODY;
            if (m.quality == 2) {
                s.hold(number);
            }
        }
        if (m.quality > 0) {
            answer(c, m.quality == 1 ? PUBACK : PUBREC, number, reason);
        }
    }

    // ---- DISTRIBUTING

    /** Whether some subscription got the message. */
    private boolean distribute(Message m, Session from) {
        distributed++;
        boolean got = false;
        for (int i = 0; i < SESSIONS; i++) {
            Session s = sessions[i];
            for (int k = 0; s != null && k < s.subscribed; k++) {
                Subscription wanted = s.subscriptions[k];
                Session to = wanted.matches(m.topic) ? receiver(s, wanted, from) : null;
                int place = to == null ? NONE : to.indexOf(wanted.told);
                if (place == NONE) {
                    continue;
                }
                got = true;
                Delivery d = hand(to, to.subscriptions[place], m, false);
                if (d != null) {
                    deliver(to, d, false);
                }
            }
        }
        return got;
    }

    /** The session that gets what this subscription matches; none, if it was served elsewhere. */
    private Session receiver(Session s, Subscription wanted, Session from) {
        if (!wanted.isShared()) {
            return (wanted.options & NO_LOCAL) != 0 && s == from ? null : s;
        }
        for (int i = 0; i < s.number; i++) {
            if (sessions[i] != null && sessions[i].indexOf(wanted.told) != NONE) {
                return null;
            }
        }
        Session best = s;
        int bestLast = wanted.last;
        for (int i = s.number + 1; i < SESSIONS; i++) {
            Session other = sessions[i];
            int place = other == null ? NONE : other.indexOf(wanted.told);
            if (place == NONE) {
                continue;
            }
            int last = other.subscriptions[place].last;
            boolean online = other.connection != null;
            boolean bestOnline = best.connection != null;
            if (online == bestOnline ? last < bestLast : online) {
                best = other;
                bestLast = last;
            }
        }
        return best;
    }

    /** Gives a message to a subscription: what is to be sent of it now, or null. */
    private Delivery hand(Session s, Subscription wanted, Message m, boolean old) {
        wanted.got++;
        wanted.last = distributed;
        int quality = Math.min(m.quality, wanted.options & 3);
        boolean retain = old || m.retain && (wanted.options & AS_PUBLISHED) != 0;
        boolean now = quality == 0 ? s.connection != null : s.queued == 0 && s.maySend();
        if (now && m.isGone(time) || !now && quality == 0) {
            return null;
        }
        if (!now && s.queued == WAITING) {
            dropped++;
            return null;
        }
        Delivery d = quality == 0 ? passing : new Delivery();
        d.become(m, quality, retain, wanted.identifier);
        if (!now) {
            s.queue(d);
            return null;
        }
        if (quality > 0) {
            s.depart(d);
        }
        return d;
    }

    /** Sends a message, again or not; what is too long for the client is given up. */
    private void deliver(Session s, Delivery d, boolean again) {
        writer.publish(d, again, time);
        if (s.size != NONE && writer.total() > s.size) {
            dropped++;
            s.arrive(d);
        } else if (s.connection != null) {
            s.connection.put(writer);
        }
    }

    /** Sends what WAITS, as long as it may be sent. */
    private void goOn(Session s) {
        for (int i = 0; i < WAITING && s.queued > 0 && s.maySend(); i++) {
            Delivery d = s.unqueue();
            if (d != null && !d.message.isGone(time)) {
                s.depart(d);
                deliver(s, d, false);
            }
        }
    }

    private int answered(Connection c, Session s, int type, int flags) {
        in.expect(flags, type == 6 ? 2 : 0);
        int number = in.number();
        int reason = 0;
        if (in.left() > 0) {
            reason = in.one();
        }
        if (in.left() > 0) {
            properties.read(in, OF_ANSWER);
        }
        in.finish();
        if (in.fault != FINE) {
            return in.fault;
        }
        if (type == 5) {
            received(c, s, number, reason);
        } else if (type == 6) {
            answer(c, PUBCOMP, number, s.letGo(number) ? 0 : NO_SUCH_NUMBER);
        } else {
            Delivery d = s.onTheWay(number, type == 4 ? 1 : 2);
            if (d != null && (type == 4 || d.released)) {
                s.arrive(d);
                goOn(s);
            }
        }
        return FINE;
    }

    private void received(Connection c, Session s, int number, int reason) {
        Delivery d = s.onTheWay(number, 2);
        if (d == null) {
            answer(c, PUBREL, number, NO_SUCH_NUMBER);
        } else if (reason >= 128) {
            s.arrive(d);
            goOn(s);
        } else {
            d.released = true;
            answer(c, PUBREL, number, 0);
        }
    }

    // ---- SUBSCRIBE, UNSUBSCRIBE

    private int subscribe(Connection c, Session s, int flags) {
        in.expect(flags, 2);
        int number = in.number();
        properties.read(in, OF_SUBSCRIBE);
        int identifier = (int) properties.get(11, 0);
        if (properties.has(11) && identifier == 0) {
            in.fail(WRONG);
        }
        int first = in.at;
        int entries = checkEntries();
        if (in.fault != FINE) {
            return in.fault;
        }
        in.at = first;
        writer.begin(SUBACK);
        writer.two(number);
        writer.one(0);
        for (int i = 0; i < entries; i++) {
            Row told = in.row(true);
            int options = in.one();
            owed[i] = s.owes(told, options);
            writer.one(s.subscribe(told, options, identifier));
        }
        c.put(writer);
        for (int i = 0; i < entries; i++) {
            if (owed[i] >= 0 && owed[i] < s.subscribed) {
                giveRetained(s, s.subscriptions[owed[i]]);
            }
        }
        return FINE;
    }

    /** Reads all entries of a SUBSCRIBE before the first is done: how many there are. */
    private int checkEntries() {
        int entries = 0;
        for (int i = 0; i < ENTRIES && in.left() > 0; i++) {
            Row told = in.row(true);
            int options = in.one();
            if ((options & 192) != 0) {
                in.fail(MALFORMED);
            }
            boolean tooHigh = (options & 3) == 3 || (options & 48) == 48;
            if (tooHigh || (options & NO_LOCAL) != 0 && told.begins(0, SHARED)) {
                in.fail(WRONG);
            }
            entries++;
        }
        if (entries == 0) {
            in.fail(WRONG);
        }
        return entries;
    }

    private void giveRetained(Session s, Subscription wanted) {
        for (int i = 0; i < store.count; i++) {
            Message m = store.messages[i];
            if (wanted.matches(m.topic)) {
                Delivery d = hand(s, wanted, m, true);
                if (d != null) {
                    deliver(s, d, false);
                }
            }
        }
    }

    private int unsubscribe(Connection c, Session s, int flags) {
        in.expect(flags, 2);
        int number = in.number();
        properties.read(in, OF_UNSUBSCRIBE);
        int first = in.at;
        int entries = 0;
        for (int i = 0; i < FOLLOWING && in.left() > 0; i++) {
            in.row(true);
            entries++;
        }
        if (entries == 0) {
            in.fail(WRONG);
        }
        if (in.fault != FINE) {
            return in.fault;
        }
        in.at = first;
        writer.begin(UNSUBACK);
        writer.two(number);
        writer.one(0);
        for (int i = 0; i < entries; i++) {
            writer.one(s.unsubscribe(in.row(true)));
        }
        c.put(writer);
        return FINE;
    }

    // ---- LOST, ENDS, TIME

    private void lost(Connection c) {
        Session s = c.session;
        c.close();
        if (s == null) {
            return;
        }
        s.connection = null;
        s.left = time;
        if (s.delay == 0 || s.expiry == 0) {
            comes(s);
        }
        if (s.expiry == 0) {
            remove(s);
        }
    }

    /** Connections whose OUT was too full are LOST, and what comes by that may fill others. */
    private void settle() {
        for (int i = 0; i < CONNECTIONS; i++) {
            Connection full = null;
            for (int k = 0; k < CONNECTIONS && full == null; k++) {
                full = connections[k].choked ? connections[k] : null;
            }
            if (full == null) {
                return;
            }
            lost(full);
        }
    }

    /** The will of a session comes, if it has one. */
    private void comes(Session s) {
        Message m = s.will;
        if (m == null) {
            return;
        }
        s.will = null;
        m.came = time;
        if (m.retain) {
            store.keep(m, time);
        }
        distribute(m, s);
    }

    private void end(Session s) {
        comes(s);
        remove(s);
    }

    private void remove(Session s) {
        sessions[s.number] = null;
        ended++;
    }

    private void tick() {
        store.purge(time);
        for (int i = 0; i < CONNECTIONS; i++) {
            Connection c = connections[i];
            if (c.session != null && c.quietUntil() < time) {
                sayFarewell(c, TOO_QUIET);
                lost(c);
            }
        }
        for (int i = 0; i < SESSIONS; i++) {
            Session s = sessions[i];
            if (s != null && s.willTime() <= time) {
                comes(s);
            }
        }
        for (int i = 0; i < SESSIONS; i++) {
            Session s = sessions[i];
            if (s != null && s.endTime() <= time) {
                end(s);
            }
        }
    }

    /** The next second in which something may happen by itself: those before it need no look. */
    private long nextEvent() {
        long next = FAR_OFF;
        for (int i = 0; i < CONNECTIONS; i++) {
            next = Math.min(next, connections[i].quietUntil() + 1);
        }
        for (int i = 0; i < SESSIONS; i++) {
            Session s = sessions[i];
            if (s != null) {
                next = Math.min(next, Math.min(s.willTime(), s.endTime()));
            }
        }
        return Math.max(next, time + 1);
    }

    // ---- what the broker is made of

    /** A row of bytes, each 0 .. 255, that never changes. */
    private static final class Row {
        final int[] bytes;

        Row(int[] bytes) {
            this.bytes = bytes;
        }

        int count() {
            return bytes.length;
        }

        int at(int i) {
            return i >= 0 && i < bytes.length ? bytes[i] : NONE;
        }

        boolean same(Row other) {
            if (bytes.length != other.bytes.length) {
                return false;
            }
            for (int i = 0; i < bytes.length; i++) {
                if (bytes[i] != other.bytes[i]) {
                    return false;
                }
            }
            return true;
        }

        boolean begins(int from, String text) {
            for (int i = 0; i < text.length(); i++) {
                if (at(from + i) != text.charAt(i)) {
                    return false;
                }
            }
            return true;
        }

        boolean isUtf8() {
            int more = 0;
            int least = 0;
            int most = 0;
            for (int i = 0; i < bytes.length; i++) {
                int b = bytes[i];
                if (more > 0) {
                    if (b < least || b > most) {
                        return false;
                    }
                    more--;
                    least = 128;
                    most = 191;
                } else if (b == 0 || b >= 128 && b < 194 || b > 244) {
                    return false;
                } else if (b >= 128) {
                    more = b < 224 ? 1 : b < 240 ? 2 : 3;
                    // The second byte alone tells what is too long, a surrogate, or too high.
                    least = b == 224 ? 160 : b == 240 ? 144 : 128;
                    most = b == 237 ? 159 : b == 244 ? 143 : 191;
                }
            }
            return more == 0;
        }

        boolean isTopic() {
            for (int i = 0; i < bytes.length; i++) {
                if (bytes[i] == '+' || bytes[i] == '#') {
                    return false;
                }
            }
            return bytes.length > 0 && bytes.length <= LONGEST_TOPIC;
        }

        /** Where the FILTER begins: 0, or behind the NAME if it is SHARED; NONE if it is neither. */
        int filterStart() {
            if (bytes.length > LONGEST_TOPIC) {
                return NONE;
            }
            int start = 0;
            if (begins(0, SHARED)) {
                start = behindName();
            }
            return start != NONE && hasLevels(start) ? start : NONE;
        }

        int behindName() {
            int name = SHARED.length();
            for (int i = name; i < bytes.length; i++) {
                if (bytes[i] == '/') {
                    return i == name || begins(i + 1, SHARED) ? NONE : i + 1;
                }
                if (bytes[i] == '+' || bytes[i] == '#') {
                    return NONE;
                }
            }
            return NONE;
        }

        boolean hasLevels(int start) {
            for (int i = start; i < bytes.length; i++) {
                if (bytes[i] != '+' && bytes[i] != '#') {
                    continue;
                }
                boolean first = i == start || at(i - 1) == '/';
                boolean last = i == bytes.length - 1 || bytes[i] == '+' && at(i + 1) == '/';
                if (!first || !last) {
                    return false;
                }
            }
            return start < bytes.length;
        }
    }

    /** Reads a packet; the first fault stays, and from it on all that is read is 0 or empty. */
    private static final class Reader {
        final Row nothing = new Row(new int[0]);
        int[] bytes = nothing.bytes;
        int at;
        /** The end of the packet, or of the properties while these are read. */
        int limit;
        int fault;

        void begin(int[] packet, int from, int end) {
            bytes = packet;
            at = from;
            limit = Math.min(end, packet.length);
            fault = FINE;
        }

        void fail(int found) {
            if (fault == FINE) {
                fault = found;
            }
        }

        void expect(int flags, int wanted) {
            if (flags != wanted) {
                fail(MALFORMED);
            }
        }

        int left() {
            return fault == FINE ? limit - at : 0;
        }

        boolean has(int count) {
            if (fault == FINE && limit - at < count) {
                fault = MALFORMED;
            }
            return fault == FINE;
        }

        int one() {
            if (!has(1)) {
                return 0;
            }
            at++;
            return bytes[at - 1];
        }

        int two() {
            if (!has(2)) {
                return 0;
            }
            at += 2;
            return bytes[at - 2] << 8 | bytes[at - 1];
        }

        long four() {
            if (!has(4)) {
                return 0;
            }
            at += 4;
            long high = bytes[at - 4] << 8 | bytes[at - 3];
            return high << 16 | bytes[at - 2] << 8 | bytes[at - 1];
        }

        int variable() {
            int value = 0;
            for (int i = 0; i < 4 && has(1); i++) {
                int b = bytes[at];
                at++;
                value |= (b & 127) << 7 * i;
                if (b < 128) {
                    return value;
                }
            }
            fail(MALFORMED);
            return 0;
        }

        /** The number of a packet. */
        int number() {
            int value = two();
            if (value == 0) {
                fail(WRONG);
            }
            return value;
        }

        Row row(boolean text) {
            if (!has(2)) {
                return nothing;
            }
            int length = bytes[at] << 8 | bytes[at + 1];
            at += 2;
            if (!has(length)) {
                return nothing;
            }
            Row read = new Row(Arrays.copyOfRange(bytes, at, at + length));
            at += length;
            if (text && !read.isUtf8()) {
                fail(MALFORMED);
                return nothing;
            }
            return read;
        }

        Row rest() {
            return new Row(Arrays.copyOfRange(bytes, at, at + left()));
        }

        void finish() {
            if (left() > 0) {
                fail(MALFORMED);
            }
        }
    }

    /** The properties of the packet that was read last. */
    private static final class Properties {
        long told;
        final long[] numbers = new long[KEYS];
        final int[] from = new int[KEYS];
        final int[] to = new int[KEYS];
        final int[] users = new int[FOLLOWING];
        int usersCount;
        int[] packet = new int[0];
        Row response;

        void clear() {
            told = 0;
            usersCount = 0;
            response = null;
        }

        void read(Reader in, long allowed) {
            clear();
            packet = in.bytes;
            int length = in.variable();
            if (!in.has(length)) {
                return;
            }
            int behind = in.limit;
            in.limit = in.at + length;
            for (int i = 0; i < FOLLOWING && in.left() > 0; i++) {
                int start = in.at;
                int key = in.one();
                if (key >= KEYS || (allowed >> key & 1) == 0 || key != 38 && has(key)) {
                    in.fail(WRONG);
                    return;
                }
                told |= 1L << key;
                from[key] = start;
                numbers[key] = value(in, key);
                to[key] = in.at;
                if (key == 38) {
                    addUser(start, in.at);
                }
            }
            in.limit = behind;
        }

        long value(Reader in, int key) {
            switch (key) {
                case 1:
                case 23:
                case 25:
                    int b = in.one();
                    if (b > 1) {
                        in.fail(MALFORMED);
                    }
                    return b;
                case 2:
                case 17:
                case 24:
                case 39:
                    return in.four();
                case 11:
                    return in.variable();
                case 33:
                case 34:
                case 35:
                    return in.two();
                case 8:
                    response = in.row(true);
                    return 0;
                case 9:
                case 22:
                    in.row(false);
                    return 0;
                case 38:
                    in.row(true);
                    in.row(true);
                    return 0;
                default:
                    in.row(true);
                    return 0;
            }
        }

        void addUser(int start, int end) {
            int length = Math.min(end - start, users.length - usersCount);
            System.arraycopy(packet, start, users, usersCount, length);
            usersCount += length;
        }

        boolean has(int key) {
            return (told >> key & 1) == 1;
        }

        long get(int key, long other) {
            return has(key) ? numbers[key] : other;
        }

        void checkResponse(Reader in) {
            if (response != null && !response.isTopic()) {
                in.fail(WRONG);
            }
        }

        /** The bytes of some properties as they came, keys and values. */
        Row raw(int[] keys) {
            int length = 0;
            for (int i = 0; i < keys.length; i++) {
                length += has(keys[i]) ? to[keys[i]] - from[keys[i]] : 0;
            }
            int[] bytes = new int[length];
            int at = 0;
            for (int i = 0; i < keys.length; i++) {
                if (has(keys[i])) {
                    int part = to[keys[i]] - from[keys[i]];
                    System.arraycopy(packet, from[keys[i]], bytes, at, part);
                    at += part;
                }
            }
            return new Row(bytes);
        }

        Message message(Row topic, Row payload, int quality, boolean retain) {
            Message m = new Message(topic, payload, quality, retain);
            m.before = raw(BEFORE_LIFE);
            m.behind = raw(BEHIND_LIFE);
            m.users = new Row(Arrays.copyOf(users, usersCount));
            m.life = get(2, NONE);
            return m;
        }
    }

    /** A packet that is being made. */
    private static final class Writer {
        int first;
        final int[] body = new int[BODY];
        int count;

        void begin(int firstByte) {
            first = firstByte;
            count = 0;
        }

        void one(int b) {
            if (count < BODY) {
                body[count] = b & 255;
                count++;
            }
        }

        void two(int value) {
            if (count + 2 <= BODY) {
                body[count] = value >> 8 & 255;
                body[count + 1] = value & 255;
                count += 2;
            }
        }

        void four(long value) {
            for (int shift = 24; shift >= 0 && count < BODY; shift -= 8) {
                body[count] = (int) (value >> shift) & 255;
                count++;
            }
        }

        void variable(int value) {
            int rest = value;
            for (int i = 0; i < 4 && count < BODY; i++) {
                body[count] = rest < 128 ? rest : rest & 127 | 128;
                count++;
                rest >>= 7;
                if (rest == 0) {
                    return;
                }
            }
        }

        void raw(Row row) {
            for (int i = 0; i < row.bytes.length && count < BODY; i++) {
                body[count] = row.bytes[i];
                count++;
            }
        }

        /** How many bytes a number has as a VARIABLE. */
        int width(int value) {
            return value < 128 ? 1 : value < 16384 ? 2 : value < 2097152 ? 3 : 4;
        }

        int total() {
            return 1 + width(count) + count;
        }

        void publish(Delivery d, boolean again, int time) {
            Message m = d.message;
            begin(PUBLISH | (again ? 8 : 0) | d.quality << 1 | (d.retain ? 1 : 0));
            two(m.topic.count());
            raw(m.topic);
            if (d.quality > 0) {
                two(d.number);
            }
            int life = m.life == NONE ? 0 : 5;
            int identifier = d.identifier == 0 ? 0 : 1 + width(d.identifier);
            variable(m.before.count() + life + m.behind.count() + identifier + m.users.count());
            raw(m.before);
            if (life > 0) {
                one(2);
                four(m.left(time));
            }
            raw(m.behind);
            if (identifier > 0) {
                one(11);
                variable(d.identifier);
            }
            raw(m.users);
            raw(m.payload);
        }
    }

    /** A message as it came; its properties are kept as bytes, but for LIFE, which grows less. */
    private static final class Message {
        final Row topic;
        final Row payload;
        final int quality;
        final boolean retain;
        Row before;
        Row behind;
        Row users;
        long life;
        int came;

        Message(Row topic, Row payload, int quality, boolean retain) {
            this.topic = topic;
            this.payload = payload;
            this.quality = quality;
            this.retain = retain;
        }

        long left(int time) {
            long rest = life - (time - came);
            return rest > 0 ? rest : 0;
        }

        boolean isGone(int time) {
            return life != NONE && left(time) == 0;
        }
    }

    /** A message on its way to one session, as its subscription wanted it when it was handed. */
    private static final class Delivery {
        Message message;
        int quality;
        boolean retain;
        int identifier;
        int number;
        boolean released;

        void become(Message what, int itsQuality, boolean itsRetain, int itsIdentifier) {
            message = what;
            quality = itsQuality;
            retain = itsRetain;
            identifier = itsIdentifier;
        }
    }

    private static final class Subscription {
        final Row told;
        /** Where the FILTER begins in what was told. */
        final int start;
        int options;
        int identifier;
        int got;
        /** How many messages had been distributed when it got its last one; 0 if it never did. */
        int last;

        Subscription(Row told, int start) {
            this.told = told;
            this.start = start;
        }

        boolean isShared() {
            return start > 0;
        }

        boolean matches(Row topic) {
            int first = told.at(start);
            if (topic.at(0) == '$' && (first == '+' || first == '#')) {
                return false;
            }
            int t = 0;
            for (int f = start; f < told.count(); f++) {
                int wanted = told.at(f);
                if (wanted == '#') {
                    return true;
                }
                if (wanted == '+') {
                    while (t < topic.count() && topic.at(t) != '/') {
                        t++;
                    }
                } else if (wanted == topic.at(t)) {
                    t++;
                } else {
                    return t == topic.count() && wanted == '/' && told.at(f + 1) == '#';
                }
            }
            return t == topic.count();
        }
    }

    private static final class Session {
        final int number;
        final Row id;
        /** The connection that has it; null if it is not ONLINE. */
        Connection connection;
        final Subscription[] subscriptions = new Subscription[SUBSCRIPTIONS];
        int subscribed;
        final Delivery[] way = new Delivery[ON_THE_WAY];
        int travelling;
        final Delivery[] waiting = new Delivery[WAITING];
        int queued;
        final int[] held = new int[HELD];
        int holding;
        Message will;
        long delay;
        long expiry;
        long size;
        int most;
        int keep;
        /** When it was ONLINE last. */
        int left;

        Session(int number, Row id) {
            this.number = number;
            this.id = id;
        }

        /** The place of the subscription that was told with these bytes, or NONE. */
        int indexOf(Row told) {
            for (int k = 0; k < subscribed; k++) {
                if (subscriptions[k].told.same(told)) {
                    return k;
                }
            }
            return NONE;
        }

        /** The place of the subscription to which RETAINED messages are due, if it comes now. */
        int owes(Row told, int options) {
            int k = indexOf(told);
            int handling = options >> 4;
            boolean due = handling == 0 || handling == 1 && k == NONE;
            if (!due || told.filterStart() != 0) {
                return NONE;
            }
            return k == NONE ? subscribed : k;
        }

        /** The reason that SUBACK tells. */
        int subscribe(Row told, int options, int identifier) {
            int start = told.filterStart();
            if (start == NONE) {
                return BAD_FILTER;
            }
            int k = indexOf(told);
            if (k == NONE && subscribed == SUBSCRIPTIONS) {
                return NO_ROOM;
            }
            if (k == NONE) {
                k = subscribed;
                subscriptions[k] = new Subscription(told, start);
                subscribed++;
            }
            subscriptions[k].options = options;
            subscriptions[k].identifier = identifier;
            return options & 3;
        }

        /** The reason that UNSUBACK tells. */
        int unsubscribe(Row told) {
            if (told.filterStart() == NONE) {
                return BAD_FILTER;
            }
            int k = indexOf(told);
            if (k == NONE) {
                return NO_SUBSCRIPTION;
            }
            subscribed--;
            for (int i = k; i < subscribed; i++) {
                subscriptions[i] = subscriptions[i + 1];
            }
            subscriptions[subscribed] = null;
            return 0;
        }

        boolean maySend() {
            return connection != null && travelling < Math.min(most, ON_THE_WAY);
        }

        /** The message ON THE WAY with this number, if it has this quality, or null. */
        Delivery onTheWay(int wanted, int quality) {
            for (int k = 0; k < travelling; k++) {
                if (way[k].number == wanted && way[k].quality == quality) {
                    return way[k];
                }
            }
            return null;
        }

        boolean isUsed(int wanted) {
            for (int k = 0; k < travelling; k++) {
                if (way[k].number == wanted) {
                    return true;
                }
            }
            return false;
        }

        void depart(Delivery d) {
            int least = 1;
            while (least <= ON_THE_WAY && isUsed(least)) {
                least++;
            }
            d.number = least;
            if (travelling < ON_THE_WAY) {
                way[travelling] = d;
                travelling++;
            }
        }

        /** It is no more ON THE WAY, if it was. */
        void arrive(Delivery d) {
            int others = 0;
            for (int k = 0; k < travelling; k++) {
                if (way[k] != d) {
                    way[others] = way[k];
                    others++;
                }
            }
            travelling = others;
        }

        void queue(Delivery d) {
            if (queued < WAITING) {
                waiting[queued] = d;
                queued++;
            }
        }

        Delivery unqueue() {
            if (queued == 0) {
                return null;
            }
            Delivery first = waiting[0];
            queued--;
            for (int i = 0; i < queued; i++) {
                waiting[i] = waiting[i + 1];
            }
            return first;
        }

        boolean holds(int wanted) {
            for (int i = 0; i < holding; i++) {
                if (held[i] == wanted) {
                    return true;
                }
            }
            return false;
        }

        void hold(int wanted) {
            if (holding < HELD) {
                held[holding] = wanted;
                holding++;
            }
        }

        boolean letGo(int wanted) {
            for (int i = 0; i < holding; i++) {
                if (held[i] == wanted) {
                    holding--;
                    held[i] = held[holding];
                    return true;
                }
            }
            return false;
        }

        long willTime() {
            return connection != null || will == null ? FAR_OFF : left + delay;
        }

        long endTime() {
            return connection != null || expiry == NEVER ? FAR_OFF : left + expiry;
        }
    }

    private static final class Connection {
        final int number;
        boolean open;
        Session session;
        final int[] sending = new int[OUT];
        int used;
        /** Whether a packet did not fit: then nothing more is sent until it is LOST. */
        boolean choked;
        int sent;
        final int[] packet = new int[PACKET];
        int come;
        /** Where what follows begins, and how many bytes the packet has; 0 until that is known. */
        int head;
        int whole;
        final Row[] aliases = new Row[ALIASES + 1];
        /** When the last packet came. */
        int last;

        Connection(int number) {
            this.number = number;
        }

        void begin() {
            open = true;
            used = 0;
        }

        void close() {
            open = false;
            session = null;
            choked = false;
            come = 0;
            for (int i = 0; i <= ALIASES; i++) {
                aliases[i] = null;
            }
        }

        int type() {
            return packet[0] >> 4;
        }

        /** A byte comes: MORE are needed, the packet is WHOLE, or a fault. */
        int accept(int b) {
            if (come < PACKET) {
                packet[come] = b;
                come++;
            }
            if (come == 1) {
                whole = 0;
                return MORE;
            }
            if (whole == 0) {
                if (b >= 128) {
                    return come == 5 ? MALFORMED : MORE;
                }
                int following = following();
                if (following > FOLLOWING) {
                    return TOO_LONG;
                }
                head = come;
                whole = come + following;
            }
            if (come < whole) {
                return MORE;
            }
            come = 0;
            return WHOLE;
        }

        int following() {
            int value = 0;
            for (int i = 1; i < come && i < 5; i++) {
                value |= (packet[i] & 127) << 7 * (i - 1);
            }
            return value;
        }

        void put(Writer made) {
            int width = made.width(made.count);
            if (choked || used + 1 + width + made.count > OUT) {
                choked = true;
                return;
            }
            sending[used] = made.first;
            int rest = made.count;
            for (int i = 1; i <= width; i++) {
                sending[used + i] = i < width ? rest & 127 | 128 : rest;
                rest >>= 7;
            }
            System.arraycopy(made.body, 0, sending, used + 1 + width, made.count);
            used += 1 + width + made.count;
            sent++;
        }

        void drop(int count) {
            used -= count;
            System.arraycopy(sending, count, sending, 0, used);
        }

        /** The topic that is meant, or null if there is none. */
        Row resolve(Row topic, int alias) {
            boolean told = alias > 0 && alias <= ALIASES;
            if (topic.count() == 0) {
                return told ? aliases[alias] : null;
            }
            if (told) {
                aliases[alias] = topic;
            }
            return topic;
        }

        /** The last second in which it may be quiet. */
        long quietUntil() {
            if (session == null || session.keep == 0) {
                return FAR_OFF;
            }
            return last + session.keep * 3L / 2;
        }
    }

    /** The RETAINED messages in their order; those that are gone by their LIFE are taken out. */
    private static final class Retained {
        final Message[] messages = new Message[RETAINED];
        int count;

        Message get(int i) {
            return i >= 0 && i < count ? messages[i] : null;
        }

        /** Takes a message in, or its topic's out if it is empty; false if there is no room. */
        boolean keep(Message m, int time) {
            int place = 0;
            while (place < count && !messages[place].topic.same(m.topic)) {
                place++;
            }
            if (m.payload.count() == 0) {
                discard(place);
                return true;
            }
            if (place == RETAINED) {
                return false;
            }
            messages[place] = m;
            count = Math.max(count, place + 1);
            if (m.isGone(time)) {
                discard(place);
            }
            return true;
        }

        void discard(int place) {
            if (place >= count) {
                return;
            }
            count--;
            for (int i = place; i < count; i++) {
                messages[i] = messages[i + 1];
            }
            messages[count] = null;
        }

        void purge(int time) {
            int left = 0;
            for (int i = 0; i < count; i++) {
                if (!messages[i].isGone(time)) {
                    messages[left] = messages[i];
                    left++;
                }
            }
            count = left;
        }
    }

    /** What a CONNECT tells. */
    private static final class Greeting {
        Row id;
        boolean clean;
        int keep;
        long expiry;
        int most;
        long size;
        Message will;
        long delay;

        void read(Reader in, Properties properties, int firstFlags) {
            in.expect(firstFlags, 0);
            Row protocol = in.row(true);
            if (protocol.count() != PROTOCOL.length() || !protocol.begins(0, PROTOCOL)) {
                in.fail(OTHER_PROTOCOL);
            }
            if (in.one() != 5) {
                in.fail(OTHER_PROTOCOL);
            }
            int flags = in.one();
            checkFlags(in, flags);
            clean = (flags & 2) != 0;
            keep = in.two();
            properties.read(in, OF_CONNECT);
            boolean method = properties.has(21);
            expiry = properties.get(17, 0);
            most = (int) properties.get(33, 65535);
            size = properties.get(39, NONE);
            if (most == 0 || size == 0 || properties.has(22) && !method) {
                in.fail(WRONG);
            }
            id = in.row(true);
            will = null;
            delay = 0;
            if ((flags & 4) != 0) {
                readWill(in, properties, flags);
            }
            if ((flags & 128) != 0) {
                in.row(true);
            }
            if ((flags & 64) != 0) {
                in.row(false);
            }
            in.finish();
            if (method) {
                in.fail(BAD_LOGIN);
            }
            if (id.count() > LONGEST_ID) {
                in.fail(BAD_ID);
            }
        }

        void checkFlags(Reader in, int flags) {
            boolean badWill = (flags & 4) == 0 ? (flags & 56) != 0 : (flags & 24) == 24;
            if ((flags & 1) != 0 || badWill) {
                in.fail(MALFORMED);
            }
        }

        void readWill(Reader in, Properties properties, int flags) {
            properties.read(in, OF_WILL);
            properties.checkResponse(in);
            delay = properties.get(24, 0);
            Row topic = in.row(true);
            if (!topic.isTopic()) {
                in.fail(BAD_TOPIC);
            }
            Row payload = in.row(false);
            if (in.fault == FINE) {
                will = properties.message(topic, payload, flags >> 3 & 3, (flags & 32) != 0);
            }
        }

        void applyTo(Session s) {
            s.expiry = expiry;
            s.most = most;
            s.size = size;
            s.keep = keep;
            s.will = will;
            s.delay = delay;
        }
    }
}
