import java.util.ArrayList;
import java.util.NoSuchElementException;

/** The document once more, as plainly as it goes: a second program to compare the first with. */
final class Plain {
    final ArrayList<Integer> tape = new ArrayList<>();
    final ArrayList<PlainSegment> onTheirWay = new ArrayList<>();
    final PlainEnd[] ends = {new PlainEnd(this, 0, 65535, 1460, 0), new PlainEnd(this, 1, 65535, 1460, 0)};
    long time;
    int connections;
    private int lost;

    void sends(PlainSegment s) {
        if (onTheirWay.size() == 512) {
            lost++;
        } else {
            onTheirWay.add(s);
        }
    }

    private PlainEnd endOf(int e) {
        if (e != 0 && e != 1) {
            throw new NoSuchElementException();
        }
        return ends[e];
    }

    private PlainSegment segmentOf(int k) {
        if (k < 0 || k >= onTheirWay.size()) {
            throw new NoSuchElementException();
        }
        return onTheirWay.get(k);
    }

    /** What a call of the face answers; a flip has its mend as 1 or 0. */
    long call(String name, int[] v) {
        switch (name) {
            case "feed":
                return feed(v);
            case "end":
                return end(v[0]);
            case "open":
                return open(v[0], v[1]);
            case "set":
                return set(endOf(v[0]), v[1], v[2]);
            case "write":
                return write(endOf(v[0]));
            case "read":
                return read(endOf(v[0]), v[1]);
            case "close":
                return close(endOf(v[0]));
            case "abort":
                return abort(endOf(v[0]));
            case "tick":
                return tick(v[0]);
            case "flip":
                return flip(segmentOf(v[0]), v[1], v[2], v[3] == 1);
            case "inject":
                return inject(v[0]);
            case "seen":
                return seen(segmentOf(v[0]), v[1]);
            case "about":
                return about(endOf(v[0]), v[1]);
            case "count":
                return count(v[0]);
            default:
                return move(name, v[0], segmentOf(v[0]));
        }
    }

    private long move(String name, int k, PlainSegment s) {
        if (name.equals("copy")) {
            sends(new PlainSegment(s.to, s.bytes.clone()));
        } else {
            onTheirWay.remove(k);
        }
        if (name.equals("deliver")) {
            ends[s.to].comes(s);
        }
        return onTheirWay.size();
    }

    private long feed(int[] numbers) {
        if (tape.size() + 20 > 65536) {
            throw new IllegalStateException();
        }
        for (int number : numbers) {
            for (int shift = 24; shift >= 0; shift -= 8) {
                tape.add(number >>> shift & 255);
            }
        }
        return tape.size();
    }

    private long end(int n) {
        if (n < 0 || n > tape.size()) {
            throw new IllegalArgumentException();
        }
        tape.subList(n, tape.size()).clear();
        return n;
    }

    private long open(int first, int second) {
        onTheirWay.clear();
        ends[0] = new PlainEnd(this, 0, ends[0].room, ends[0].mss, first);
        ends[1] = new PlainEnd(this, 1, ends[1].room, ends[1].mss, second);
        ends[0].state = 2;
        ends[1].state = 1;
        connections++;
        ends[0].sendSyn();
        return connections - 1;
    }

    private long set(PlainEnd e, int what, int value) {
        int before = what == 0 ? e.room : e.mss;
        if (what == 0 && value >= 0 && value <= 65535) {
            e.room = value;
        } else if (what == 1 && value >= 64 && value <= 1460) {
            e.mss = value;
        } else {
            throw new IllegalArgumentException();
        }
        return before;
    }

    private long write(PlainEnd e) {
        if (e.state != 4 && e.state != 7) {
            throw new IllegalStateException();
        }
        if (e.notAcknowledged() > 131072) {
            throw new UnsupportedOperationException();
        }
        int n = tape.size();
        e.given.addAll(tape);
        tape.clear();
        e.output();
        return n;
    }

    private long read(PlainEnd e, int n) {
        if (n < 1 || n > 7) {
            throw new IllegalArgumentException();
        }
        if (e.unread.isEmpty() && e.finTaken) {
            throw new IllegalStateException();
        }
        if (e.unread.isEmpty() && e.ending != 0) {
            throw new UnsupportedOperationException();
        }
        long number = 0;
        long bytes = 0;
        while (number < n && !e.unread.isEmpty()) {
            bytes = bytes * 256 + e.unread.remove();
            number++;
        }
        boolean takes = e.state == 4 || e.state == 5 || e.state == 6;
        if (takes && e.edge - e.rcv < e.segment && e.rcv + e.free() - e.edge >= e.segment) {
            e.sendAck();
        }
        return (number << 56) + bytes;
    }

    private long close(PlainEnd e) {
        if (e.state != 1 && e.state != 2 && e.state != 4 && e.state != 7) {
            throw new IllegalStateException();
        }
        e.close();
        return e.state;
    }

    private long abort(PlainEnd e) {
        int before = e.state;
        e.abort();
        return before;
    }

    private long tick(int n) {
        if (n < 1 || n > 1000000) {
            throw new IllegalArgumentException();
        }
        for (int i = 0; i < n; i++) {
            time++;
            for (PlainEnd e : ends) {
                if (e.timer == time) {
                    e.timerComesDue();
                }
            }
        }
        return time;
    }

    private long flip(PlainSegment s, int at, int with, boolean mend) {
        if (at < 0 || at >= s.bytes.length) {
            throw new IndexOutOfBoundsException();
        }
        s.bytes[at] ^= with & 255;
        if (s.bytes.length < 18) {
            return -1;
        }
        if (mend) {
            s.mend();
        }
        return s.number(16, 2);
    }

    private long inject(int e) {
        endOf(e);
        if (tape.size() > 1484) {
            throw new IllegalArgumentException();
        }
        int[] bytes = new int[tape.size()];
        for (int i = 0; i < bytes.length; i++) {
            bytes[i] = tape.get(i);
        }
        tape.clear();
        sends(new PlainSegment(e, bytes));
        return onTheirWay.size();
    }

    private long seen(PlainSegment s, int at) {
        if (at == -1) {
            return s.bytes.length;
        }
        if (at == -2) {
            return s.to;
        }
        if (at < 0 || at >= s.bytes.length) {
            throw new IndexOutOfBoundsException();
        }
        return s.bytes[at];
    }

    private long about(PlainEnd e, int what) {
        if (what < 0 || what > 16) {
            throw new IllegalArgumentException();
        }
        return e.facts()[what];
    }

    private long count(int what) {
        long[] counts = {time % (1L << 31), onTheirWay.size(), connections, tape.size(), lost};
        return what < 0 || what >= counts.length ? -1 : counts[what];
    }
}
