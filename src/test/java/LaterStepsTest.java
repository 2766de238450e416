/** A SEGMENT COMES: its steps 10 to 15. Growth and resending of step 10 are in CrowdTest. */
public final class LaterStepsTest {
    public static void main(String[] args) {
        step10BeyondMax();
        step10Progress();
        step11Window();
        step11NumberOfTheSyn();
        step11Tries();
        step12FinAcknowledged();
        step13Data();
        step13FirstComeStays();
        step13CutAtTheEdge();
        step13Fin();
        step13OtherStates();
        step14Lingers();
        step15Answers();
        step10Edges();
        step12Edges();
        step13FullWindow();
        step13AfterAFullWindow();
        Due.finish();
    }

    private static void step10BeyondMax() {
        StreamPair x = Due.joined(1000, 5000);
        Due.write(x, 0, 10);
        Due.dropAll(x);
        Due.comes(x, 0, Due.ACK, 5001, 1012, 77, 4);
        Due.segment("an ACK", x, 0, 1, 20, Due.ACK, 1011, 5001, 65535);
        Due.is("alone", x.count(1), 1);
        Due.is("dropped", x.about(0, 2), 0);
        Due.is("FAR", x.about(0, 8), 65535);
        Due.is("not acknowledged", x.about(0, 3), 10);
        x.tick(200);
        Due.dropAll(x);
        Due.write(x, 0, 2000);
        Due.is("NXT - UNA", x.about(0, 14), 10);
        Due.comes(x, 0, Due.ACK, 5001, 1011, 65535, 0);
        Due.is("MAX counts, not NXT", x.about(0, 3), 2000);
    }

    private static void step10Progress() {
        StreamPair x = Due.joined(1000, 5000);
        Due.write(x, 0, 3000);
        x.tick(300);
        Due.dropAll(x);
        Due.comes(x, 0, Due.ACK, 5001, 1001, 65535, 0);
        Due.is("SAME", x.about(0, 12), 1);
        Due.is("TRIES", x.about(0, 7), 1);
        Due.comes(x, 0, Due.ACK, 5001, 2001, 65535, 0);
        Due.is("SAME", x.about(0, 12), 0);
        Due.is("TRIES", x.about(0, 7), 0);
        Due.is("not acknowledged", x.about(0, 3), 2000);
        Due.is("timer", x.about(0, 11), 400);
        Due.segment("goes on from NXT", x, 0, 1, 1480, Due.ACK, 2461, 5001, 65535);
        Due.comes(x, 0, Due.ACK, 5001, 1500, 65535, 0);
        Due.is("an older ACK changes nothing", x.about(0, 3), 2000);
    }

    private static void step11Window() {
        StreamPair x = Due.joined(1000, 5000);
        Due.write(x, 0, 20);
        Due.dropAll(x);
        Due.comes(x, 0, Due.ACK, 5001, 1011, 500, 0);
        Due.is("a newer ACK number", x.about(0, 8), 500);
        Due.comes(x, 0, Due.ACK, 5001, 1011, 600, 0);
        Due.is("the same numbers", x.about(0, 8), 600);
        Due.comes(x, 0, Due.ACK, 5001, 1010, 700, 0);
        Due.is("an older ACK number", x.about(0, 8), 600);
        Due.comes(x, 0, Due.ACK, 5003, 1010, 700, 0);
        Due.is("an older ACK number with a newer SEQ", x.about(0, 8), 600);
        Due.comes(x, 0, Due.ACK, 5003, 1011, 700, 0);
        Due.is("a newer SEQ", x.about(0, 8), 700);
        Due.comes(x, 0, Due.ACK, 5002, 1021, 800, 0);
        Due.is("an older SEQ", x.about(0, 8), 700);
        Due.is("but its ACK number counts", x.about(0, 3), 0);
        Due.comes(x, 0, Due.ACK, 5003, 1021, 900, 0);
        Due.is("the SEQ again", x.about(0, 8), 900);
    }

    /** WL2 is the ACK number of the segment that told the window, were it a SYN without ACK. */
    private static void step11NumberOfTheSyn() {
        int[] numbers = {5000, 5001, 5002, 6000};
        for (int number : numbers) {
            StreamPair x = Due.inState(1);
            Due.comes(x, 1, Due.SYN, 1000, number, 50, 0);
            Due.comes(x, 1, Due.ACK, 1000, 5001, 777, 3);
            Due.is("ESTABLISHED", x.about(1, 0), 4);
            Due.is("FAR", x.about(1, 8), number <= 5001 ? 777 : 50);
            Due.comes(x, 1, Due.ACK, 1001, 5001, 888, 3);
            Due.is("FAR with a newer SEQ", x.about(1, 8), 888);
        }
    }

    private static void step11Tries() {
        StreamPair x = Due.joined(1000, 5000);
        Due.write(x, 0, 20);
        x.tick(200);
        Due.dropAll(x);
        Due.is("TRIES", x.about(0, 7), 1);
        Due.comes(x, 0, Due.ACK, 5001, 1001, 500, 0);
        Due.is("TRIES with an open window", x.about(0, 7), 1);
        Due.comes(x, 0, Due.ACK, 5001, 1000, 0, 0);
        Due.is("TRIES with a closed window that does not count", x.about(0, 7), 1);
        Due.comes(x, 0, Due.ACK, 5001, 1001, 0, 0);
        Due.is("TRIES with a closed window", x.about(0, 7), 0);
        Due.is("the timer stays", x.about(0, 11), 400);
    }

    private static void step12FinAcknowledged() {
        StreamPair x = Due.joined(1000, 5000);
        Due.write(x, 0, 5);
        x.close(0);
        Due.dropAll(x);
        Due.comes(x, 0, Due.ACK, 5001, 1006, 65535, 0);
        Due.is("the data alone", x.about(0, 0), 5);
        Due.is("on the way", x.about(0, 14), 1);
        Due.comes(x, 0, Due.ACK, 5001, 1007, 65535, 0);
        Due.is("FIN_WAIT_2", x.about(0, 0), 6);
        Due.is("not acknowledged", x.about(0, 3), 0);
        StreamPair y = Due.inState(5);
        Due.comes(y, 0, Due.ACK | Due.FIN, 5001, 1002, 65535, 3);
        Due.is("FIN_WAIT_2, and at once TIME_WAIT", y.about(0, 0), 10);
        Due.is("unread", y.about(0, 2), 3);
        StreamPair z = Due.inState(9);
        Due.comes(z, 0, Due.ACK | Due.FIN, 5002, 1002, 65535, 3);
        Due.is("CLOSED, and that is all", z.about(0, 0), 0);
        Due.is("not answered", z.count(1), 0);
        Due.is("no end", z.about(0, 1), 0);
        Due.is("no timer", z.about(0, 11), -1);
        StreamPair c = Due.inState(8);
        Due.comes(c, 0, Due.ACK, 5002, 1001, 65535, 0);
        Due.is("still CLOSING", c.about(0, 0), 8);
        c.tick(3);
        Due.comes(c, 0, Due.ACK, 5002, 1002, 65535, 0);
        Due.is("TIME_WAIT", c.about(0, 0), 10);
        Due.is("timer", c.about(0, 11), 4000);
    }

    private static void step13Data() {
        StreamPair x = Due.joined(1000, 5000);
        Due.comes(x, 1, Due.ACK, 1005, 5001, 65535, 2);
        Due.segment("ACK of what was there", x, 0, 0, 20, Due.ACK, 5001, 1001, 65535);
        Due.is("kept", x.about(1, 15), 2);
        Due.comes(x, 1, Due.ACK, 1001, 5001, 65535, 3);
        Due.segment("ACK of what lies without a gap", x, 1, 0, 20, Due.ACK, 5001, 1004, 65532);
        Due.is("kept", x.about(1, 15), 2);
        Due.is("unread", x.about(1, 2), 3);
        Due.comes(x, 1, Due.ACK, 1004, 5001, 65535, 1);
        Due.segment("ACK of all", x, 2, 0, 20, Due.ACK, 5001, 1007, 65529);
        Due.is("kept", x.about(1, 15), 0);
        Due.is("unread", x.about(1, 2), 6);
        Due.comes(x, 1, Due.ACK, 1001, 5001, 65535, 6);
        Due.is("all old is not taken again", x.about(1, 2), 6);
        Due.comes(x, 1, Due.ACK, 1001, 5001, 65535, 8);
        Due.is("only what is new", x.about(1, 2), 8);
    }

    private static void step13FirstComeStays() {
        StreamPair x = Due.joined(1000, 5000);
        byte[] none = new byte[0];
        Due.comes(x, 1, Due.forged(1, Due.ACK, 1003, 5001, 9, none, new byte[] {3, 0, 5}));
        Due.comes(x, 1, Due.forged(1, Due.ACK, 1002, 5001, 9, none, new byte[] {12, 13, 14, 15, 16}));
        Due.is("kept", x.about(1, 15), 5);
        Due.comes(x, 1, Due.forged(1, Due.ACK, 1000, 5001, 9, none, new byte[] {20, 21, 22, 23}));
        Due.is("read", x.read(1, 7), 6L << 56 | 0x150C03000510L);
    }

    private static void step13CutAtTheEdge() {
        StreamPair x = new StreamPair();
        x.set(1, 0, 10);
        Due.join(x, 1000, 5000);
        Due.comes(x, 1, Due.ACK | Due.FIN, 1005, 5001, 65535, 20);
        Due.is("kept to EDGE - 1", x.about(1, 15), 6);
        Due.comes(x, 1, Due.ACK | Due.FIN, 1001, 5001, 65535, 20);
        Due.is("taken to EDGE - 1", x.about(1, 2), 10);
        Due.is("the FIN beyond is forgotten", x.about(1, 0), 4);
        Due.is("RCV", Due.ack(x, 1), 1011);
        Due.is("window", Due.window(x, 1), 0);
        StreamPair y = new StreamPair();
        y.set(1, 0, 10);
        Due.join(y, 1000, 5000);
        Due.comes(y, 1, Due.ACK | Due.FIN, 1001, 5001, 65535, 10);
        Due.is("a FIN that lies at EDGE is taken", y.about(1, 0), 7);
        Due.segment("its ACK", y, 0, 0, 20, Due.ACK, 5001, 1012, 0);
        Due.is("window", y.about(1, 9), 0);
    }

    private static void step13Fin() {
        StreamPair x = Due.joined(1000, 5000);
        Due.comes(x, 1, Due.ACK | Due.FIN, 1003, 5001, 65535, 0);
        Due.is("a FIN behind a gap", x.about(1, 0), 4);
        Due.segment("is answered", x, 0, 0, 20, Due.ACK, 5001, 1001, 65535);
        Due.comes(x, 1, Due.ACK, 1001, 5001, 65535, 2);
        Due.is("it was forgotten", x.about(1, 0), 4);
        Due.comes(x, 1, Due.ACK | Due.FIN, 1001, 5001, 65535, 2);
        Due.is("with data that is there already", x.about(1, 0), 7);
        Due.is("unread", x.about(1, 2), 2);
        Due.segment("is answered", x, 2, 0, 20, Due.ACK, 5001, 1004, 65533);
        StreamPair y = Due.joined(1000, 5000);
        Due.comes(y, 1, Due.ACK, 1003, 5001, 65535, 2);
        Due.comes(y, 1, Due.ACK | Due.FIN, 1001, 5001, 65535, 1);
        Due.is("a FIN at RCV", y.about(1, 0), 7);
        Due.is("what is kept behind it stays", y.about(1, 15), 2);
        StreamPair z = Due.joined(1000, 5000);
        Due.comes(z, 1, Due.ACK, 1002, 5001, 65535, 2);
        Due.comes(z, 1, Due.ACK | Due.FIN, 1001, 5001, 65535, 1);
        Due.is("a FIN before RCV is forgotten", z.about(1, 0), 4);
        Due.is("unread", z.about(1, 2), 3);
    }

    private static void step13OtherStates() {
        int[] states = {7, 8, 9, 10};
        for (int state : states) {
            StreamPair x = Due.inState(state);
            Due.comes(x, 0, Due.ACK | Due.FIN, 5002, 1001, 65535, 4);
            Due.is("no data in state " + state, x.about(0, 2) + x.about(0, 15), 0);
            Due.is("no other state", x.about(0, 0), state);
            Due.is("an ACK", Due.flags(x, 0), Due.ACK);
            Due.is("RCV stays", Due.ack(x, 0), 5002);
            Due.comes(x, 0, Due.ACK | Due.FIN, 5002, 1001, 65535, 0);
            Due.is("no second FIN", Due.ack(x, 1), 5002);
        }
        int[] open = {4, 5, 6};
        for (int state : open) {
            StreamPair x = Due.inState(state);
            Due.comes(x, 0, Due.ACK, 5001, 1001, 65535, 4);
            Due.is("data in state " + state, x.about(0, 2), 4);
            Due.comes(x, 0, Due.ACK | Due.FIN, 5005, 1001, 65535, 0);
            Due.is("the FIN in state " + state, x.about(0, 0), state == 4 ? 7 : state == 5 ? 8 : 10);
        }
    }

    private static void step14Lingers() {
        StreamPair x = Due.inState(10);
        x.tick(1500);
        Due.dropAll(x);
        Due.is("timer", x.about(0, 11), 2500);
        Due.comes(x, 0, Due.ACK, 5002, 1002, 65535, 0);
        Due.is("timer", x.about(0, 11), 4000);
        Due.is("not answered", x.count(1), 0);
        x.tick(4000);
        Due.is("CLOSED", x.about(0, 0), 0);
    }

    private static void step15Answers() {
        StreamPair x = Due.joined(1000, 5000);
        Due.comes(x, 0, Due.ACK, 5001, 1001, 65535, 0);
        Due.is("an ACK alone is not answered", x.count(1), 0);
        Due.write(x, 0, 5842);
        Due.is("on the way", x.about(0, 14), 5840);
        Due.dropAll(x);
        Due.comes(x, 0, Due.ACK, 5001, 1001, 65535, 3);
        Due.segment("an ACK, as nothing else goes", x, 0, 1, 20, Due.ACK, 6841, 5004, 65532);
        Due.comes(x, 0, Due.ACK, 5004, 2461, 65535, 3);
        Due.segment("data tells RCV too", x, 1, 1, 22, Due.ACK | Due.PSH, 6841, 5007, 65529);
        Due.is("no other ACK", x.count(1), 2);
    }

    /** UNA 1001, MAX 1011: one below, at and one beyond each. */
    private static void step10Edges() {
        int[][] cases = {{1000, 10, 0}, {1001, 10, 0}, {1002, 9, 0}, {1010, 1, 0}, {1011, 0, 0}, {1012, 10, 1}};
        for (int[] one : cases) {
            StreamPair x = Due.joined(1000, 5000);
            Due.write(x, 0, 10);
            Due.dropAll(x);
            Due.comes(x, 0, Due.ACK, 5001, one[0], 65535, 0);
            Due.is("not acknowledged by " + one[0], x.about(0, 3), one[1]);
            Due.is("answers to " + one[0], x.count(1), one[2]);
            Due.is("SAME", x.about(0, 12), one[0] == 1001 ? 1 : 0);
            StreamPair y = Due.joined(1000, 5000);
            Due.write(y, 0, 9);
            y.close(0);
            Due.dropAll(y);
            Due.comes(y, 0, Due.ACK, 5001, one[0], 65535, 0);
            int left = one[1] == 10 ? 9 : Math.max(one[1] - 1, 0);
            Due.is("bytes not acknowledged with a FIN at 1010", y.about(0, 3), left);
            Due.is("answers to " + one[0], y.count(1), one[2]);
            Due.is("FIN_WAIT_2 only by 1011", y.about(0, 0), one[0] == 1011 ? 6 : 5);
        }
        StreamPair z = Due.joined(1000, 5000);
        Due.comes(z, 0, Due.ACK, 5001, 1002, 65535, 0);
        Due.is("beyond MAX when nothing was sent", z.count(1), 1);
    }

    /** In states 5, 8 and 9 the FIN is acknowledged or not; in 4 and 7 there is none. */
    private static void step12Edges() {
        int[] then = {-1, -1, -1, -1, 4, 6, 6, 7, 10, 0, 10};
        for (int state = 4; state <= 10; state++) {
            int rcv = state <= 6 ? 5001 : 5002;
            StreamPair x = Due.inState(state);
            Due.comes(x, 0, Due.ACK, rcv, 1001, 65535, 0);
            Due.is("without it in state " + state, x.about(0, 0), state);
            StreamPair y = Due.inState(state);
            Due.comes(y, 0, Due.ACK, rcv, 1002, 65535, 0);
            Due.is("with it in state " + state, y.about(0, 0), then[state]);
        }
    }

    /** A full window of 65,535: the last byte is taken, one more is not, and a FIN at EDGE alone does not fit. */
    private static void step13FullWindow() {
        StreamPair x = filled();
        Due.is("unread", x.about(1, 2), 65535);
        Due.is("window", x.about(1, 9), 0);
        Due.dropAll(x);
        Due.comes(x, 1, Due.ACK, 1001 + 65535, 5001, 65535, 1);
        Due.is("a byte more", x.about(1, 2) + x.about(1, 15), 65535);
        Due.segment("is answered", x, 0, 0, 20, Due.ACK, 5001, 1001 + 65535, 0);
        Due.comes(x, 1, Due.ACK | Due.FIN, 1001 + 65535, 5001, 65535, 0);
        Due.is("a FIN", x.about(1, 0), 4);
        Due.is("read", x.read(1, 1), 1L << 56 | Due.patternAt(0));
        Due.is("a byte read is not told", x.count(1), 2);
        Due.comes(x, 1, Due.ACK | Due.FIN, 1001 + 65535, 5001, 65535, 0);
        Due.is("and does not fit, as EDGE is told by SENDING alone", x.about(1, 0), 4);
        Due.segment("which is this answer", x, 2, 0, 20, Due.ACK, 5001, 1001 + 65535, 1);
        Due.comes(x, 1, Due.ACK | Due.FIN, 1001 + 65535, 5001, 65535, 0);
        Due.is("now it fits", x.about(1, 0), 7);
    }

    /** 45 segments of which 44 are copies whose SEQ is altered, since calls are few. */
    private static StreamPair filled() {
        StreamPair x = Due.joined(1000, 5000);
        Due.write(x, 0, 1460);
        for (int i = 0; i < 45; i++) {
            int seq = 1001 + 1460 * i;
            x.copy(0);
            x.flip(1, 5, seq >> 16 & 255, false);
            x.flip(1, 6, (seq >> 8 ^ 1001 >> 8) & 255, false);
            x.flip(1, 7, (seq ^ 1001) & 255, true);
            x.deliver(1);
            x.drop(1);
        }
        return x;
    }

    /** 65,536 numbers after a byte that was read there is room for another. */
    private static void step13AfterAFullWindow() {
        StreamPair x = filled();
        Due.is("read", x.read(1, 7) >>> 56, 7);
        Due.write(x, 1, 1);
        Due.is("window", x.about(1, 9), 7);
        Due.comes(x, 1, Due.ACK, 1001 + 65535, 5001, 65535, 20);
        Due.is("unread", x.about(1, 2), 65535);
        Due.is("kept", x.about(1, 15), 0);
        Due.is("window", x.about(1, 9), 0);
        Due.is("ACK", Due.ack(x, x.count(1) - 1), 1001 + 65542);
    }
}
