import java.util.ArrayList;
import java.util.Arrays;
import java.util.NoSuchElementException;

/** Two ends of a TCP stream, and the network between them, which the caller drives by hand. */
public final class StreamPair {
    private static final int FIN = 1;
    private static final int SYN = 2;
    private static final int RST = 4;
    private static final int PSH = 8;
    private static final int ACK = 16;

    private static final int CLOSED = 0;
    private static final int LISTEN = 1;
    private static final int SYN_SENT = 2;
    private static final int SYN_RCVD = 3;
    private static final int ESTABLISHED = 4;
    private static final int FIN_WAIT_1 = 5;
    private static final int FIN_WAIT_2 = 6;
    private static final int CLOSE_WAIT = 7;
    private static final int CLOSING = 8;
    private static final int LAST_ACK = 9;
    private static final int TIME_WAIT = 10;

    private static final int NO_ENDING = 0;
    private static final int RESET = 1;
    private static final int LOST = 2;

    private static final int TAPE_MOST = 65536;
    private static final int FEED_BYTES = 20;
    private static final int READ_MOST = 7;
    private static final int TICK_MOST = 1000000;
    private static final int TIME_MASK = 0x7FFFFFFF;
    private static final int ROOM_MOST = 65535;
    private static final int WAITING_MOST = 131072;
    private static final int MSS_LEAST = 64;
    private static final int MSS_MOST = 1460;
    private static final int ABOUT_MOST = 16;
    private static final int SMALL_ROW = 64;

    private static final int WAITING_PORT = 443;
    private static final int OPENING_PORT_FIRST = 40000;
    private static final int OPENING_PORTS = 20000;

    /* Far above the 18 timers that can come due while nothing is delivered. */
    private static final int TIMERS_BOUND = 1000;

    private final Tape tape;
    private final Clock clock;
    private final Network network;
    private final End opener;
    private final End waiter;
    private int connections;

    public StreamPair() {
        tape = new Tape();
        clock = new Clock();
        network = new Network();
        opener = new End(0, clock, network);
        waiter = new End(1, clock, network);
    }

    public int feed(int a, int b, int c, int d, int e) throws IllegalStateException {
        if (tape.length + FEED_BYTES > TAPE_MOST) {
            throw new IllegalStateException("no room on the tape");
        }
        tape.addNumber(a);
        tape.addNumber(b);
        tape.addNumber(c);
        tape.addNumber(d);
        tape.addNumber(e);
        return tape.length;
    }

    public int end(int n) throws IllegalArgumentException {
        if (n < 0 || n > tape.length) {
            throw new IllegalArgumentException("not a length within the tape");
        }
        tape.length = n;
        return n;
    }

    public int open(int first, int second) {
        int number = connections;
        connections = number + 1;
        int port = OPENING_PORT_FIRST + Math.floorMod(number, OPENING_PORTS);
        network.forgetAll();
        opener.begin(SYN_SENT, first, port, WAITING_PORT);
        waiter.begin(LISTEN, second, WAITING_PORT, port);
        opener.sendFirstSyn();
        return number;
    }

    public int set(int e, int what, int value) throws NoSuchElementException, IllegalArgumentException {
        End side = sideOf(e);
        if (what == 0 && value >= 0 && value <= ROOM_MOST) {
            int before = side.arrivals.room;
            side.arrivals.room = value;
            return before;
        }
        if (what == 1 && value >= MSS_LEAST && value <= MSS_MOST) {
            int before = side.mss;
            side.mss = value;
            return before;
        }
        throw new IllegalArgumentException("no such setting or value");
    }

    public int write(int e) throws NoSuchElementException, IllegalStateException, UnsupportedOperationException {
        End side = sideOf(e);
        if (side.state != ESTABLISHED && side.state != CLOSE_WAIT) {
            throw new IllegalStateException("not a state to write in");
        }
        if (side.supply.waiting > WAITING_MOST) {
            throw new UnsupportedOperationException("too many bytes wait");
        }
        int n = tape.length;
        side.supply.add(tape.bytes, n);
        tape.length = 0;
        side.output();
        return n;
    }

    public long read(int e, int n) throws NoSuchElementException, IllegalArgumentException, IllegalStateException,
            UnsupportedOperationException {
        End side = sideOf(e);
        if (n < 1 || n > READ_MOST) {
            throw new IllegalArgumentException("not 1 to 7 bytes");
        }
        if (side.arrivals.unread == 0 && side.arrivals.finTaken) {
            throw new IllegalStateException("the stream has ended");
        }
        if (side.arrivals.unread == 0 && side.ending != NO_ENDING) {
            throw new UnsupportedOperationException("the stream was broken off");
        }
        long answer = side.arrivals.takeUnread(n);
        side.tellOpenedWindow();
        return answer;
    }

    public int close(int e) throws NoSuchElementException, IllegalStateException {
        End side = sideOf(e);
        if (!side.mayClose()) {
            throw new IllegalStateException("not a state to close in");
        }
        side.closes();
        return side.state;
    }

    public int abort(int e) throws NoSuchElementException {
        End side = sideOf(e);
        int before = side.state;
        side.breaksOff();
        return before;
    }

    public long tick(int n) throws IllegalArgumentException {
        if (n < 1 || n > TICK_MOST) {
            throw new IllegalArgumentException("not 1 to 1,000,000 milliseconds");
        }
        long until = clock.time + n;
        for (int i = 0; i < TIMERS_BOUND; i++) {
            End side = nextDue();
            if (!side.pace.runs || side.pace.due > until) {
                break;
            }
            clock.time = side.pace.due;
            side.timerDue();
        }
        clock.time = until;
        return until;
    }

    public int deliver(int k) throws NoSuchElementException {
        Segment segment = segmentOf(k);
        network.takeOut(k);
        if (segment.to == 0) {
            opener.comes(segment);
        } else {
            waiter.comes(segment);
        }
        network.spare.add(segment);
        return network.row.size();
    }

    public int drop(int k) throws NoSuchElementException {
        Segment segment = segmentOf(k);
        network.takeOut(k);
        network.spare.add(segment);
        return network.row.size();
    }

    public int copy(int k) throws NoSuchElementException {
        Segment segment = segmentOf(k);
        network.placeBytes(segment.to, segment.bytes, segment.length);
        return network.row.size();
    }

    public int flip(int k, int at, int with, boolean mend) throws NoSuchElementException, IndexOutOfBoundsException {
        Segment segment = segmentOf(k);
        if (at < 0 || at >= segment.length) {
            throw new IndexOutOfBoundsException("no such place");
        }
        segment.bytes[at] = (byte) (segment.bytes[at] ^ with);
        if (segment.length < Segment.CHECKSUM_AT + 2) {
            return -1;
        }
        if (mend) {
            segment.mendChecksum();
        }
        return segment.number(Segment.CHECKSUM_AT, 2);
    }

    public int inject(int e) throws NoSuchElementException, IllegalArgumentException {
        End side = sideOf(e);
        if (tape.length > Segment.BYTES_MOST) {
            throw new IllegalArgumentException("too long for a segment");
        }
        network.placeBytes(side.index, tape.bytes, tape.length);
        tape.length = 0;
        return network.row.size();
    }

    public int seen(int k, int at) throws NoSuchElementException, IndexOutOfBoundsException {
        Segment segment = segmentOf(k);
        if (at == -1) {
            return segment.length;
        }
        if (at == -2) {
            return segment.to;
        }
        if (at < 0 || at >= segment.length) {
            throw new IndexOutOfBoundsException("no such place");
        }
        return segment.number(at, 1);
    }

    public int about(int e, int what) throws NoSuchElementException, IllegalArgumentException {
        End side = sideOf(e);
        if (what < 0 || what > ABOUT_MOST) {
            throw new IllegalArgumentException("no such fact");
        }
        return side.fact(what);
    }

    public int count(int what) {
        switch (what) {
            case 0:
                return (int) (clock.time & TIME_MASK);
            case 1:
                return network.row.size();
            case 2:
                return connections;
            case 3:
                return tape.length;
            case 4:
                return network.lost;
            default:
                return -1;
        }
    }

    private End sideOf(int e) {
        if (e == 0) {
            return opener;
        }
        if (e == 1) {
            return waiter;
        }
        throw new NoSuchElementException("no such end");
    }

    private Segment segmentOf(int k) {
        if (k < 0 || k >= network.row.size()) {
            throw new NoSuchElementException("no such segment");
        }
        return network.row.get(k);
    }

    private End nextDue() {
        if (!waiter.pace.runs) {
            return opener;
        }
        return opener.pace.runs && opener.pace.due <= waiter.pace.due ? opener : waiter;
    }

    /** What both ends take for now. */
    private static final class Clock {
        long time;
    }

    /** The bytes that the caller has fed. */
    private static final class Tape {
        byte[] bytes = new byte[SMALL_ROW];
        int length;

        void addNumber(int number) {
            if (length + 4 > bytes.length) {
                bytes = Arrays.copyOf(bytes, 2 * bytes.length);
            }
            bytes[length] = (byte) (number >>> 24);
            bytes[length + 1] = (byte) (number >>> 16);
            bytes[length + 2] = (byte) (number >>> 8);
            bytes[length + 3] = (byte) number;
            length += 4;
        }
    }

    /** A segment as bytes; the object and its row serve again when it is gone. */
    private static final class Segment {
        static final int BYTES_MOST = 1484;
        static final int HEADER = 20;
        static final int SYN_HEADER = 24;

        static final int FROM_PORT_AT = 0;
        static final int TO_PORT_AT = 2;
        static final int SEQ_AT = 4;
        static final int ACK_AT = 8;
        static final int OFFSET_AT = 12;
        static final int FLAGS_AT = 13;
        static final int WINDOW_AT = 14;
        static final int CHECKSUM_AT = 16;
        static final int URGENT_AT = 18;

        /* 10.0.0.1, 10.0.0.2 and protocol 6 as 16-bit words: the sum is the same in both directions. */
        private static final int PSEUDO_HEADER_SUM = 0x0A00 + 0x0001 + 0x0A00 + 0x0002 + 6;
        private static final int MSS_UNTOLD = 536;
        /* Kind 2 and length 4, above the two bytes of the value. */
        static final int MSS_OPTION = 0x02040000;

        byte[] bytes = new byte[SMALL_ROW];
        int length;
        int to;

        /** Two sizes of row alone, so that one that serves again is made anew at most once. */
        void begin(int target, int size) {
            if (size > bytes.length) {
                bytes = new byte[BYTES_MOST];
            }
            to = target;
            length = size;
        }

        void put(int at, int size, int value) {
            if (at < 0 || at + size > length) {
                return;
            }
            for (int i = 0; i < size; i++) {
                bytes[at + i] = (byte) (value >>> 8 * (size - 1 - i));
            }
        }

        int number(int at, int size) {
            if (at < 0 || at + size > length) {
                return 0;
            }
            int value = 0;
            for (int i = 0; i < size; i++) {
                value = value << 8 | bytes[at + i] & 255;
            }
            return value;
        }

        int seq() {
            return number(SEQ_AT, 4);
        }

        int ack() {
            return number(ACK_AT, 4);
        }

        int window() {
            return number(WINDOW_AT, 2);
        }

        boolean has(int flag) {
            return (number(FLAGS_AT, 1) & flag) != 0;
        }

        int headerLength() {
            return (number(OFFSET_AT, 1) >>> 4) * 4;
        }

        int dataLength() {
            return length - headerLength();
        }

        /** How many numbers it takes up. */
        int span() {
            return dataLength() + (has(SYN) ? 1 : 0) + (has(FIN) ? 1 : 0);
        }

        boolean isWellFormed() {
            return length >= HEADER && headerLength() >= HEADER && headerLength() <= length && wordSum() == 0xFFFF;
        }

        /** The sum of all words and the pseudo header's, with the carries added. */
        int wordSum() {
            int sum = PSEUDO_HEADER_SUM + length;
            for (int at = 0; at < length; at++) {
                int value = bytes[at] & 255;
                sum += at % 2 == 0 ? value << 8 : value;
            }
            sum = (sum & 0xFFFF) + (sum >>> 16);
            return (sum & 0xFFFF) + (sum >>> 16);
        }

        void mendChecksum() {
            put(CHECKSUM_AT, 2, 0);
            put(CHECKSUM_AT, 2, ~wordSum());
        }

        /** What a SYN tells as its MSS. */
        int toldMss() {
            int told = MSS_UNTOLD;
            int behind = headerLength();
            int at = HEADER;
            while (at < behind) {
                int kind = number(at, 1);
                if (kind == 0) {
                    break;
                }
                if (kind == 1) {
                    at++;
                    continue;
                }
                int size = at + 1 < behind ? number(at + 1, 1) : 0;
                if (size < 2 || at + size > behind) {
                    break;
                }
                if (kind == 2 && size == 4) {
                    told = number(at + 2, 2);
                }
                at += size;
            }
            return Math.max(told, MSS_LEAST);
        }
    }

    /** The segments on their way, the newest last. */
    private static final class Network {
        private static final int SEGMENTS_MOST = 512;

        final ArrayList<Segment> row = new ArrayList<>();
        final ArrayList<Segment> spare = new ArrayList<>();
        int lost;

        /** A segment whose bytes are yet to be written; null, and one more lost, if there is no room. */
        Segment place(int to, int size) {
            if (row.size() >= SEGMENTS_MOST) {
                lost++;
                return null;
            }
            Segment segment = spare.isEmpty() ? new Segment() : spare.remove(spare.size() - 1);
            segment.begin(to, size);
            row.add(segment);
            return segment;
        }

        void placeBytes(int to, byte[] bytes, int size) {
            Segment segment = place(to, size);
            if (segment != null) {
                System.arraycopy(bytes, 0, segment.bytes, 0, size);
            }
        }

        void takeOut(int k) {
            if (k >= 0 && k < row.size()) {
                row.remove(k);
            }
        }

        void forgetAll() {
            for (int k = 0; k < row.size(); k++) {
                spare.add(row.get(k));
            }
            row.clear();
        }
    }

    /** What an end has to send: the bytes not acknowledged yet, and the numbers of its sending side. */
    private static final class Supply {
        private byte[] bytes = new byte[SMALL_ROW];
        private int start;
        int waiting;
        int iss;
        int una;
        int nxt;
        int max;
        /* The number behind the last byte that was given, so that of the FIN. */
        int fin;
        boolean closed;
        int far;
        int wl1;
        int wl2;

        void begin(int first) {
            start = 0;
            waiting = 0;
            iss = first;
            una = first;
            nxt = first;
            max = first;
            fin = first + 1;
            closed = false;
            far = 0;
            wl1 = 0;
            wl2 = 0;
        }

        void add(byte[] from, int n) {
            makeRoom(n);
            System.arraycopy(from, 0, bytes, start + waiting, n);
            waiting += n;
            fin += n;
        }

        private void makeRoom(int n) {
            if (start + waiting + n <= bytes.length) {
                return;
            }
            byte[] old = bytes;
            if (waiting + n > bytes.length) {
                bytes = new byte[Math.max(waiting + n, 2 * bytes.length)];
            }
            System.arraycopy(old, start, bytes, 0, waiting);
            start = 0;
        }

        void copyTo(Segment segment, int number, int n) {
            int from = start + waiting - (fin - number);
            if (n > 0 && from >= start && from + n <= start + waiting) {
                System.arraycopy(bytes, from, segment.bytes, Segment.HEADER, n);
            }
        }

        void acknowledge(int number) {
            int left = Math.min(Math.max(fin - number, 0), waiting);
            start += waiting - left;
            waiting = left;
            una = number;
            if (nxt - una < 0) {
                nxt = una;
            }
        }

        void follow(int number) {
            nxt = number;
            if (nxt - max > 0) {
                max = nxt;
            }
        }

        int flight() {
            return nxt - una;
        }

        int unsent() {
            return Math.max(fin - nxt, 0);
        }

        /** The bytes from UNA on that were sent at any time. */
        int sentBytes() {
            return Math.max((max - fin > 0 ? fin : max) - una, 0);
        }

        boolean finIsDue() {
            return closed && unsent() == 0 && nxt - fin <= 0;
        }

        boolean finIsAcknowledged() {
            return closed && una - fin > 0;
        }

        void heedWindow(Segment segment) {
            far = segment.window();
            wl1 = segment.seq();
            wl2 = segment.ack();
        }

        boolean isNewerWindow(Segment segment) {
            int seq = segment.seq();
            int ack = segment.ack();
            return ack - una >= 0 && (seq - wl1 > 0 || seq == wl1 && ack - wl2 >= 0);
        }
    }

    /** What has come to an end: unread and kept bytes, and the numbers of its receiving side. */
    private static final class Arrivals {
        private static final int RING = 65536;
        /* Marks a place of the ring that holds a byte, since a byte may be 0. */
        private static final int HELD = 256;

        int room = ROOM_MOST;
        int rcv;
        int edge;
        boolean finTaken;
        int unread;
        int kept;
        /* From the first unread byte to EDGE there are 65,535 numbers at most: each has a place of its own. */
        private short[] ring = new short[0];
        private int firstUnread;

        void begin() {
            if (unread > 0 || kept > 0) {
                Arrays.fill(ring, (short) 0);
            }
            rcv = 0;
            edge = 0;
            finTaken = false;
            unread = 0;
            kept = 0;
            firstUnread = 0;
        }

        void heedSyn(int seq) {
            rcv = seq + 1;
            edge = rcv;
            firstUnread = rcv;
        }

        int free() {
            return Math.max(room - unread, 0);
        }

        int window() {
            return edge - rcv;
        }

        /** EDGE never goes back: what was told once stays allowed. */
        int openWindow() {
            int offered = rcv + free();
            if (offered - edge > 0) {
                edge = offered;
            }
            return window();
        }

        boolean isExpected(int number) {
            return number - rcv >= 0 && number - edge < 0;
        }

        boolean fits(int seq, int span) {
            if (span == 0) {
                return seq == rcv || isExpected(seq);
            }
            return isExpected(seq) || isExpected(seq + span - 1);
        }

        void keep(Segment segment) {
            if (ring.length == 0) {
                ring = new short[RING];
            }
            int header = segment.headerLength();
            int first = segment.seq();
            for (int at = header; at < segment.length; at++) {
                int number = first + at - header;
                int place = number & RING - 1;
                if (isExpected(number) && ring[place] == 0) {
                    ring[place] = (short) (HELD | segment.bytes[at] & 255);
                    kept++;
                }
            }
            takeWithoutGap();
        }

        private void takeWithoutGap() {
            for (int i = 0; i < RING && kept > 0 && ring[rcv & RING - 1] != 0; i++) {
                rcv++;
                kept--;
                unread++;
            }
        }

        void takeFin() {
            rcv++;
            finTaken = true;
        }

        long takeUnread(int most) {
            int n = Math.min(most, unread);
            long bytes = 0;
            for (int i = 0; i < n; i++) {
                int place = firstUnread & RING - 1;
                bytes = bytes << 8 | ring[place] & 255;
                ring[place] = 0;
                firstUnread++;
            }
            unread -= n;
            return (long) n << 56 | bytes;
        }
    }

    /** How long an end waits: its timer, and the round-trip times that set it. */
    private static final class Pace {
        private static final int RTO_FIRST = 1000;
        private static final int RTO_LEAST = 200;
        private static final int RTO_MOST = 60000;

        int rto = RTO_FIRST;
        int tries;
        boolean runs;
        long due;
        long srtt = -1;
        private long variation;
        private boolean timed;
        private int timedNumber;
        private long timedAt;

        void begin() {
            rto = RTO_FIRST;
            tries = 0;
            runs = false;
            srtt = -1;
            variation = 0;
            timed = false;
        }

        void startTimer(long now, int wait) {
            runs = true;
            due = now + wait;
        }

        void time(int number, long now) {
            if (!timed) {
                timed = true;
                timedNumber = number;
                timedAt = now;
            }
        }

        void forgetTimed() {
            timed = false;
        }

        void heedAck(int ack, long now) {
            if (timed && ack - timedNumber >= 0) {
                timed = false;
                measure(now - timedAt);
            }
        }

        private void measure(long r) {
            if (srtt < 0) {
                srtt = r;
                variation = r / 2;
            } else {
                variation = (3 * variation + Math.abs(srtt - r)) / 4;
                srtt = (7 * srtt + r) / 8;
            }
            rto = (int) Math.max(RTO_LEAST, Math.min(RTO_MOST, srtt + 4 * variation));
        }

        void backOff() {
            tries++;
            rto = Math.min(2 * rto, RTO_MOST);
            timed = false;
        }
    }

    /** How much an end dares to have on its way. */
    private static final class Crowd {
        private static final int THRESH_FIRST = 65535;
        private static final int CWND_MOST = 1000000;

        int segment;
        int cwnd;
        int thresh = THRESH_FIRST;
        int same;

        void begin() {
            segment = 0;
            cwnd = 0;
            thresh = THRESH_FIRST;
            same = 0;
        }

        void heedMss(int own, int told) {
            segment = Math.min(own, told);
            cwnd = 4 * segment;
        }

        void grow(int acknowledged) {
            int more;
            if (cwnd < thresh) {
                more = Math.min(acknowledged, segment);
            } else {
                more = cwnd > 0 ? Math.max(segment * segment / cwnd, 1) : 1;
            }
            cwnd = Math.min(cwnd + more, CWND_MOST);
        }

        /** After a timer: the network is taken for blocked. */
        void collapse(int flight) {
            thresh = lowered(flight);
            cwnd = segment;
            same = 0;
        }

        /** After a loss that later segments got past: the network still carries some. */
        void halve(int flight) {
            thresh = lowered(flight);
            cwnd = thresh;
        }

        private int lowered(int flight) {
            return Math.max(flight / 2, 2 * segment);
        }
    }

    /** One end: its state, and what it does when a segment comes, its timer is due or its user calls. */
    private static final class End {
        private static final int TRIES_MOST = 8;
        private static final int SAME_TO_SEND_AGAIN = 3;
        private static final int LINGER = 4000;
        /* Far above the 3075 segments that the bytes an end may hold can make. */
        private static final int OUTPUT_BOUND = 10000;

        /* What is left to do when a segment was looked at. */
        private static final int NOTHING = 0;
        private static final int ANSWER = 1;
        private static final int SEND_ACK = 2;
        private static final int SEND_SYN = 3;
        private static final int OUTPUT = 4;
        private static final int OUTPUT_OR_ACK = 5;
        private static final int GO_ON = 6;

        final int index;
        private final Clock clock;
        private final Network network;
        final Supply supply = new Supply();
        final Arrivals arrivals = new Arrivals();
        final Pace pace = new Pace();
        private final Crowd crowd = new Crowd();
        int mss = MSS_MOST;
        int state;
        int ending;
        private int sent;
        private int refused;
        /* 0 as long as there was no connection. */
        private int port;
        private int otherPort;

        End(int index, Clock clock, Network network) {
            this.index = index;
            this.clock = clock;
            this.network = network;
        }

        void begin(int firstState, int iss, int ownPort, int farPort) {
            state = firstState;
            supply.begin(iss);
            arrivals.begin();
            pace.begin();
            crowd.begin();
            ending = NO_ENDING;
            sent = 0;
            refused = 0;
            port = ownPort;
            otherPort = farPort;
        }

        boolean mayClose() {
            return state == LISTEN || state == SYN_SENT || state == ESTABLISHED || state == CLOSE_WAIT;
        }

        void closes() {
            if (state == LISTEN || state == SYN_SENT) {
                shut(NO_ENDING);
                return;
            }
            state = state == ESTABLISHED ? FIN_WAIT_1 : LAST_ACK;
            supply.closed = true;
            output();
        }

        void breaksOff() {
            if (state == CLOSED) {
                return;
            }
            if (state >= SYN_RCVD && state <= CLOSING) {
                send(RST, supply.nxt, 0);
            }
            shut(RESET);
        }

        private void shut(int how) {
            state = CLOSED;
            ending = how;
            pace.runs = false;
        }

        /** The ACK behind a read, when the window could grow by enough to be worth telling. */
        void tellOpenedWindow() {
            int window = arrivals.window();
            if (takesData() && window < crowd.segment && arrivals.free() - window >= crowd.segment) {
                sendAck();
            }
        }

        private boolean takesData() {
            return state == ESTABLISHED || state == FIN_WAIT_1 || state == FIN_WAIT_2;
        }

        private void sendAck() {
            send(0, supply.nxt, 0);
        }

        void sendFirstSyn() {
            sendNext(SYN, 0);
            pace.startTimer(clock.time, pace.rto);
        }

        /** Sends from NXT on, and NXT follows. */
        private void sendNext(int flags, int n) {
            int seq = supply.nxt;
            int behind = seq + n + (flags == 0 ? 0 : 1);
            send(flags, seq, n);
            if (seq == supply.max) {
                pace.time(behind, clock.time);
            }
            supply.follow(behind);
        }

        /** SENDING, but for NXT and MAX. */
        private void send(int flags, int seq, int n) {
            int window = arrivals.openWindow();
            if (index == 0 && flags == SYN) {
                emit(SYN, seq, 0, window, 0);
                return;
            }
            int push = n > 0 && seq + n == supply.fin ? PSH : 0;
            emit(flags | push | ACK, seq, arrivals.rcv, window, n);
        }

        private void emit(int flags, int seq, int ack, int window, int n) {
            boolean syn = (flags & SYN) != 0;
            int header = syn ? Segment.SYN_HEADER : Segment.HEADER;
            sent++;
            Segment segment = network.place(1 - index, header + n);
            if (segment == null) {
                return;
            }
            segment.put(Segment.FROM_PORT_AT, 2, port);
            segment.put(Segment.TO_PORT_AT, 2, otherPort);
            segment.put(Segment.SEQ_AT, 4, seq);
            segment.put(Segment.ACK_AT, 4, ack);
            segment.put(Segment.OFFSET_AT, 1, header / 4 << 4);
            segment.put(Segment.FLAGS_AT, 1, flags);
            segment.put(Segment.WINDOW_AT, 2, window);
            segment.put(Segment.URGENT_AT, 2, 0);
            if (syn) {
                segment.put(Segment.HEADER, 4, Segment.MSS_OPTION | mss);
            }
            supply.copyTo(segment, seq, n);
            segment.mendChecksum();
        }

        /** OUTPUT: whether anything was sent. */
        boolean output() {
            if (!maySend()) {
                return false;
            }
            int before = sent;
            for (int i = 0; i < OUTPUT_BOUND; i++) {
                int n = bytesToSend();
                if (n == 0 && !supply.finIsDue()) {
                    break;
                }
                sendNext(n > 0 ? 0 : FIN, n);
            }
            if (!pace.runs && (supply.flight() != 0 || supply.unsent() > 0)) {
                pace.startTimer(clock.time, pace.rto);
            }
            return sent != before;
        }

        private boolean maySend() {
            return state == ESTABLISHED || state == FIN_WAIT_1 || state >= CLOSE_WAIT && state <= LAST_ACK;
        }

        private int bytesToSend() {
            int unsent = supply.unsent();
            int allowed = Math.min(crowd.cwnd, supply.far) - supply.flight();
            int n = Math.min(Math.min(unsent, allowed), crowd.segment);
            boolean isWorthIt = n == unsent || n == crowd.segment || supply.flight() == 0;
            return n > 0 && isWorthIt ? n : 0;
        }

        void timerDue() {
            pace.runs = false;
            if (state == TIME_WAIT) {
                shut(NO_ENDING);
                return;
            }
            if (pace.tries >= TRIES_MOST) {
                shut(LOST);
                return;
            }
            pace.backOff();
            if (state == SYN_SENT || state == SYN_RCVD) {
                supply.nxt = supply.iss;
                sendNext(SYN, 0);
            } else {
                crowd.collapse(supply.flight());
                supply.nxt = supply.una;
                if (!output() && supply.unsent() > 0) {
                    sendNext(0, 1);
                }
            }
            pace.startTimer(clock.time, pace.rto);
        }

        /** A SEGMENT COMES: first what it changes here, then what is sent for it. */
        void comes(Segment segment) {
            if (!isOfThisConnection(segment)) {
                refused++;
                return;
            }
            int left;
            if (state == CLOSED) {
                left = ANSWER;
            } else if (state == LISTEN) {
                left = heedInListen(segment);
            } else if (state == SYN_SENT) {
                left = heedInSynSent(segment);
            } else {
                left = heedInOthers(segment);
            }
            switch (left) {
                case ANSWER:
                    answer(segment);
                    break;
                case SEND_ACK:
                    sendAck();
                    break;
                case SEND_SYN:
                    sendFirstSyn();
                    break;
                case OUTPUT:
                    output();
                    break;
                case OUTPUT_OR_ACK:
                    if (!output()) {
                        sendAck();
                    }
                    break;
                default:
                    break;
            }
        }

        /** Step 1. */
        private boolean isOfThisConnection(Segment segment) {
            return port != 0 && segment.isWellFormed() && segment.number(Segment.FROM_PORT_AT, 2) == otherPort
                    && segment.number(Segment.TO_PORT_AT, 2) == port;
        }

        /** The answer of step 2, to what has no place here. */
        private void answer(Segment segment) {
            if (segment.has(RST)) {
                return;
            }
            if (segment.has(ACK)) {
                emit(RST, segment.ack(), 0, 0, 0);
            } else {
                emit(RST | ACK, 0, segment.seq() + segment.span(), 0, 0);
            }
        }

        /** Step 3. */
        private int heedInListen(Segment segment) {
            if (segment.has(RST)) {
                return NOTHING;
            }
            if (segment.has(ACK)) {
                return ANSWER;
            }
            if (!segment.has(SYN)) {
                return NOTHING;
            }
            heedSyn(segment);
            state = SYN_RCVD;
            return SEND_SYN;
        }

        private void heedSyn(Segment segment) {
            arrivals.heedSyn(segment.seq());
            supply.heedWindow(segment);
            crowd.heedMss(mss, segment.toldMss());
        }

        /** Step 4. */
        private int heedInSynSent(Segment segment) {
            boolean hasAck = segment.has(ACK);
            if (hasAck && segment.ack() != supply.iss + 1) {
                return ANSWER;
            }
            if (segment.has(RST)) {
                if (hasAck) {
                    shut(RESET);
                }
                return NOTHING;
            }
            if (!hasAck || !segment.has(SYN)) {
                return NOTHING;
            }
            supply.acknowledge(segment.ack());
            heedSyn(segment);
            pace.runs = false;
            pace.heedAck(segment.ack(), clock.time);
            pace.tries = 0;
            state = ESTABLISHED;
            return OUTPUT_OR_ACK;
        }

        /** Steps 5 to 9. */
        private int admit(Segment segment) {
            if (!arrivals.fits(segment.seq(), segment.span())) {
                return refuse(segment);
            }
            if (segment.has(RST)) {
                if (segment.seq() != arrivals.rcv) {
                    return SEND_ACK;
                }
                shut(RESET);
                return NOTHING;
            }
            if (segment.has(SYN)) {
                return SEND_ACK;
            }
            if (!segment.has(ACK)) {
                return NOTHING;
            }
            if (state == SYN_RCVD) {
                if (segment.ack() != supply.una + 1) {
                    return ANSWER;
                }
                state = ESTABLISHED;
            }
            return GO_ON;
        }

        private int refuse(Segment segment) {
            if (segment.has(RST)) {
                return NOTHING;
            }
            if (state == TIME_WAIT && segment.has(FIN)) {
                pace.startTimer(clock.time, LINGER);
            }
            return SEND_ACK;
        }

        /** Steps 5 to 15. */
        private int heedInOthers(Segment segment) {
            int left = admit(segment);
            if (left != GO_ON) {
                return left;
            }
            int ack = segment.ack();
            if (ack - supply.max > 0) {
                return SEND_ACK;
            }
            if (ack - supply.una > 0) {
                heedProgress(ack);
            } else if (isSameAgain(segment)) {
                heedSameAgain();
            }
            heedWindow(segment);
            if (supply.finIsAcknowledged()) {
                heedFinAcknowledged();
            }
            if (state == CLOSED) {
                return NOTHING;
            }
            if (takesData()) {
                takeIn(segment);
            }
            if (state == TIME_WAIT) {
                pace.startTimer(clock.time, LINGER);
            }
            return segment.span() > 0 ? OUTPUT_OR_ACK : OUTPUT;
        }

        private void heedProgress(int ack) {
            pace.heedAck(ack, clock.time);
            crowd.grow(ack - supply.una);
            supply.acknowledge(ack);
            pace.tries = 0;
            crowd.same = 0;
            pace.runs = false;
        }

        private boolean isSameAgain(Segment segment) {
            return segment.ack() == supply.una && segment.span() == 0 && segment.window() == supply.far
                    && supply.flight() != 0;
        }

        private void heedSameAgain() {
            crowd.same++;
            if (crowd.same != SAME_TO_SEND_AGAIN) {
                return;
            }
            crowd.halve(supply.flight());
            pace.forgetTimed();
            int n = Math.min(crowd.segment, supply.sentBytes());
            send(n > 0 ? 0 : FIN, supply.una, n);
        }

        /** Step 11. */
        private void heedWindow(Segment segment) {
            if (!supply.isNewerWindow(segment)) {
                return;
            }
            supply.heedWindow(segment);
            if (supply.far == 0) {
                pace.tries = 0;
            }
        }

        /** Step 12. */
        private void heedFinAcknowledged() {
            if (state == FIN_WAIT_1) {
                state = FIN_WAIT_2;
            } else if (state == CLOSING) {
                state = TIME_WAIT;
            } else if (state == LAST_ACK) {
                shut(NO_ENDING);
            }
        }

        /** Step 13. */
        private void takeIn(Segment segment) {
            int n = segment.dataLength();
            if (n > 0) {
                arrivals.keep(segment);
            }
            if (!segment.has(FIN) || segment.seq() + n != arrivals.rcv) {
                return;
            }
            arrivals.takeFin();
            if (state == ESTABLISHED) {
                state = CLOSE_WAIT;
            } else if (state == FIN_WAIT_1) {
                state = CLOSING;
            } else {
                state = TIME_WAIT;
            }
        }

        int fact(int what) {
            switch (what) {
                case 0:
                    return state;
                case 1:
                    return ending;
                case 2:
                    return arrivals.unread;
                case 3:
                    return supply.waiting;
                case 4:
                    return crowd.cwnd;
                case 5:
                    return crowd.thresh;
                case 6:
                    return pace.rto;
                case 7:
                    return pace.tries;
                case 8:
                    return supply.far;
                case 9:
                    return arrivals.window();
                case 10:
                    return sent;
                case 11:
                    return pace.runs ? (int) (pace.due - clock.time) : -1;
                case 12:
                    return crowd.same;
                case 13:
                    return (int) pace.srtt;
                case 14:
                    return supply.flight();
                case 15:
                    return arrivals.kept;
                default:
                    return refused;
            }
        }
    }
}
