import java.util.ArrayDeque;
import java.util.ArrayList;
import java.util.Collections;
import java.util.List;
import java.util.TreeMap;

/** An END of Plain in one connection: the terms of the document in its words and in its order. */
final class PlainEnd {
    private static final int OFF = -1;

    private final Plain pair;
    private final int index;
    int room;
    int mss;
    int state;
    /* 1 RESET, 2 LOST. */
    int ending;
    final ArrayDeque<Integer> unread = new ArrayDeque<>();
    boolean finTaken;

    final int iss;
    int una;
    int nxt;
    int max;
    final ArrayList<Integer> given = new ArrayList<>();
    private boolean closed;
    int far;
    int wl1;
    private int wl2;
    int segment;
    int rcv;
    int edge;
    private int cwnd;
    private int thresh = 65535;
    private int same;
    private int rto = 1000;
    private int tries;
    long timer = OFF;

    private boolean isTimed;
    private int timedNumber;
    private long timedAt;
    private long srtt = -1;
    private long variation;

    private final TreeMap<Integer, Integer> kept = new TreeMap<>();
    private int sent;
    private int dropped;

    PlainEnd(Plain pair, int index, int room, int mss, int iss) {
        this.pair = pair;
        this.index = index;
        this.room = room;
        this.mss = mss;
        this.iss = iss;
        una = iss;
        nxt = iss;
        max = iss;
    }

    int fin() {
        return iss + 1 + given.size();
    }

    int notAcknowledged() {
        return given.size() - Math.min(given.size(), Math.max(0, una - iss - 1));
    }

    /** u: how many bytes there are from NXT on. */
    private int unsent() {
        return Math.max(0, fin() - nxt);
    }

    int free() {
        return Math.max(0, room - unread.size());
    }

    private int port(int ofWhom) {
        return ofWhom == 0 ? 40000 + (pair.connections - 1) % 20000 : 443;
    }

    private void becomeClosed(int how) {
        state = 0;
        timer = OFF;
        ending = how;
    }

    private void onItsWay(int flags, int seq, int ack, int window, List<Integer> data) {
        boolean syn = (flags & Due.SYN) != 0;
        int header = syn ? 24 : 20;
        PlainSegment made = new PlainSegment(1 - index, new int[header + data.size()]);
        made.put(0, 2, port(index));
        made.put(2, 2, port(1 - index));
        made.put(4, 4, seq);
        made.put(8, 4, ack);
        made.put(12, 1, header / 4 * 16);
        made.put(13, 1, flags);
        made.put(14, 2, window);
        if (syn) {
            made.put(20, 1, 2);
            made.put(21, 1, 4);
            made.put(22, 2, mss);
        }
        for (int i = 0; i < data.size(); i++) {
            made.put(header + i, 1, data.get(i));
        }
        made.mend();
        sent++;
        pair.sends(made);
    }

    /** SENDING, with n bytes of data from SEQ on: the number behind it. */
    private int sending(int flags, int seq, int n) {
        boolean synOfEnd0 = index == 0 && (flags & Due.SYN) != 0;
        if (rcv + free() - edge > 0) {
            edge = rcv + free();
        }
        int first = seq - (iss + 1);
        List<Integer> data = n == 0 ? Collections.emptyList() : given.subList(first, first + n);
        int all = flags | (synOfEnd0 ? 0 : Due.ACK) | (n > 0 && first + n == given.size() ? Due.PSH : 0);
        onItsWay(all, seq, synOfEnd0 ? 0 : rcv, edge - rcv, data);
        int behind = seq + n + ((flags & (Due.SYN | Due.FIN)) != 0 ? 1 : 0);
        if (behind != seq && seq == max && !isTimed) {
            isTimed = true;
            timedNumber = behind;
            timedAt = pair.time;
        }
        return behind;
    }

    private void sendingOn(int flags, int seq, int n) {
        nxt = sending(flags, seq, n);
        if (nxt - max > 0) {
            max = nxt;
        }
    }

    void sendAck() {
        sending(0, nxt, 0);
    }

    void sendSyn() {
        sendingOn(Due.SYN, iss, 0);
        timer = pair.time + rto;
    }

    /** OUTPUT: whether it sent. */
    boolean output() {
        if (state != 4 && state != 5 && state != 7 && state != 8 && state != 9) {
            return false;
        }
        int before = sent;
        boolean sends = true;
        while (sends) {
            int u = unsent();
            int w = Math.min(cwnd, far) - (nxt - una);
            int n = Math.min(u, Math.min(w, segment));
            sends = false;
            if (n > 0 && (n == u || n == segment || nxt == una)) {
                sendingOn(0, nxt, n);
                sends = true;
            } else if (closed && u == 0 && !(nxt - fin() > 0)) {
                sendingOn(Due.FIN, nxt, 0);
                sends = true;
            }
        }
        if ((nxt != una || unsent() > 0) && timer == OFF) {
            timer = pair.time + rto;
        }
        return sent != before;
    }

    private void mayGiveR(int ack) {
        if (!isTimed || ack - timedNumber < 0) {
            return;
        }
        long r = pair.time - timedAt;
        if (srtt == -1) {
            srtt = r;
            variation = r / 2;
        } else {
            variation = (3 * variation + Math.abs(srtt - r)) / 4;
            srtt = (7 * srtt + r) / 8;
        }
        rto = (int) Math.min(60000, Math.max(200, srtt + 4 * variation));
        isTimed = false;
    }

    private void lowerThresh() {
        thresh = Math.max((nxt - una) / 2, 2 * segment);
    }

    /** THE TIMER comes due. */
    void timerComesDue() {
        timer = OFF;
        if (state == 10) {
            becomeClosed(0);
            return;
        }
        if (tries == 8) {
            becomeClosed(2);
            return;
        }
        tries++;
        rto = Math.min(60000, 2 * rto);
        isTimed = false;
        if (state == 2 || state == 3) {
            sendingOn(Due.SYN, iss, 0);
        } else {
            lowerThresh();
            cwnd = segment;
            same = 0;
            nxt = una;
            if (!output() && unsent() > 0) {
                sendingOn(0, nxt, 1);
            }
        }
        timer = pair.time + rto;
    }

    /** A SEGMENT COMES, step 1. */
    void comes(PlainSegment s) {
        int n = s.bytes.length;
        if (n < 20 || s.header() < 20 || s.header() > n || s.sum() != 65535 || pair.connections == 0
                || s.number(0, 2) != port(1 - index) || s.number(2, 2) != port(index)) {
            dropped++;
        } else if (state == 0) {
            answer(s);
        } else if (state == 1) {
            step3(s);
        } else if (state == 2) {
            step4(s);
        } else {
            step5(s);
        }
    }

    /** Step 2. */
    private void answer(PlainSegment s) {
        if (s.has(Due.RST)) {
            return;
        }
        if (s.has(Due.ACK)) {
            onItsWay(Due.RST, s.ack(), 0, 0, Collections.emptyList());
        } else {
            onItsWay(Due.RST | Due.ACK, 0, s.seq() + s.length(), 0, Collections.emptyList());
        }
    }

    private void step3(PlainSegment s) {
        if (s.has(Due.RST)) {
            return;
        }
        if (s.has(Due.ACK)) {
            answer(s);
        } else if (s.has(Due.SYN)) {
            takeSyn(s);
            state = 3;
            sendSyn();
        }
    }

    private void takeSyn(PlainSegment s) {
        rcv = s.seq() + 1;
        edge = rcv;
        takeWindow(s);
        segment = Math.min(mss, s.toldMss());
        cwnd = 4 * segment;
    }

    private void takeWindow(PlainSegment s) {
        far = s.window();
        wl1 = s.seq();
        wl2 = s.ack();
    }

    private void step4(PlainSegment s) {
        if (s.has(Due.ACK) && s.ack() != iss + 1) {
            answer(s);
        } else if (s.has(Due.RST)) {
            if (s.has(Due.ACK)) {
                becomeClosed(1);
            }
        } else if (s.has(Due.SYN) && s.has(Due.ACK)) {
            una = iss + 1;
            takeSyn(s);
            timer = OFF;
            mayGiveR(s.ack());
            tries = 0;
            state = 4;
            if (!output()) {
                sendAck();
            }
        }
    }

    private boolean isInWindow(int number) {
        return number - rcv >= 0 && number - edge < 0;
    }

    private boolean fits(PlainSegment s) {
        if (s.length() == 0) {
            return s.seq() == rcv || isInWindow(s.seq());
        }
        return isInWindow(s.seq()) || isInWindow(s.seq() + s.length() - 1);
    }

    private void step5(PlainSegment s) {
        if (!fits(s)) {
            if (!s.has(Due.RST)) {
                sendAck();
                if (state == 10 && s.has(Due.FIN)) {
                    timer = pair.time + 4000;
                }
            }
        } else if (s.has(Due.RST)) {
            if (s.seq() == rcv) {
                becomeClosed(1);
            } else {
                sendAck();
            }
        } else if (s.has(Due.SYN)) {
            sendAck();
        } else if (s.has(Due.ACK)) {
            step9(s);
        }
    }

    private void step9(PlainSegment s) {
        if (state == 3) {
            if (s.ack() != una + 1) {
                answer(s);
                return;
            }
            state = 4;
        }
        if (s.ack() - max > 0) {
            sendAck();
            return;
        }
        step10(s);
        step11(s);
        if (closed && una - fin() > 0) {
            if (state == 9) {
                becomeClosed(0);
                return;
            }
            state = state == 5 ? 6 : state == 8 ? 10 : state;
        }
        if (state == 4 || state == 5 || state == 6) {
            step13(s);
        }
        if (state == 10) {
            timer = pair.time + 4000;
        }
        if (!output() && (s.data() > 0 || s.has(Due.FIN))) {
            sendAck();
        }
    }

    private void step10(PlainSegment s) {
        boolean isBare = s.data() == 0 && !s.has(Due.FIN);
        if (s.ack() - una > 0) {
            mayGiveR(s.ack());
            cwnd += cwnd < thresh ? Math.min(s.ack() - una, segment) : Math.max(1, segment * segment / cwnd);
            cwnd = Math.min(1000000, cwnd);
            una = s.ack();
            if (nxt - una < 0) {
                nxt = una;
            }
            tries = 0;
            same = 0;
            timer = OFF;
        } else if (s.ack() == una && isBare && s.window() == far && nxt != una) {
            same++;
            if (same == 3) {
                goAgain();
            }
        }
    }

    private void goAgain() {
        lowerThresh();
        cwnd = thresh;
        isTimed = false;
        int wereSent = Math.min(max - una, fin() - una);
        int n = Math.min(segment, wereSent);
        sending(n > 0 ? 0 : Due.FIN, una, n);
    }

    private void step11(PlainSegment s) {
        boolean isNewer = s.seq() - wl1 > 0 || s.seq() == wl1 && s.ack() - wl2 >= 0;
        if (s.ack() - una >= 0 && isNewer) {
            takeWindow(s);
            if (far == 0) {
                tries = 0;
            }
        }
    }

    private void step13(PlainSegment s) {
        for (int i = 0; i < s.data(); i++) {
            if (isInWindow(s.seq() + i)) {
                kept.putIfAbsent(s.seq() + i, s.bytes[s.header() + i]);
            }
        }
        while (kept.containsKey(rcv)) {
            unread.add(kept.remove(rcv));
            rcv++;
        }
        if (s.has(Due.FIN) && rcv == s.seq() + s.data()) {
            rcv++;
            finTaken = true;
            state = state == 4 ? 7 : state == 5 ? 8 : 10;
        }
    }

    void close() {
        if (state == 1 || state == 2) {
            becomeClosed(0);
            return;
        }
        state = state == 4 ? 5 : 9;
        closed = true;
        output();
    }

    void abort() {
        if (state >= 3 && state <= 8) {
            sending(Due.RST, nxt, 0);
        }
        if (state != 0) {
            becomeClosed(1);
        }
    }

    long[] facts() {
        return new long[] {state, ending, unread.size(), notAcknowledged(), cwnd, thresh, rto, tries, far, edge - rcv,
            sent, timer == OFF ? -1 : timer - pair.time, same, srtt, nxt - una, kept.size(), dropped};
    }
}
