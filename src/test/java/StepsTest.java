/** A SEGMENT COMES: its steps 1 to 9. Steps 10 to 15 are in LaterStepsTest. */
public final class StepsTest {
    private static final byte[] NONE = new byte[0];

    public static void main(String[] args) {
        step1Shapes();
        step1Checksum();
        step1Ports();
        options();
        step2Closed();
        step3Listen();
        step4SynSent();
        step5Window();
        step5TimeWait();
        step6Reset();
        step7Syn();
        step8NoAck();
        step9SynRcvd();
        step5Lengths();
        step5ClosedWindow();
        step6Edges();
        longestHeader();
        step2AfterAll();
        windowsOfSyns();
        noChecksum();
        answersLeaveTheWindow();
        Due.finish();
    }

    private static void dropped(String what, StreamPair x, int to, byte[] row) {
        int before = x.about(to, 16);
        int state = x.about(to, 0);
        int sent = x.count(1);
        Due.comes(x, to, row);
        Due.is(what + " is dropped in step 1", x.about(to, 16), before + 1);
        Due.is(what + " changes no state", x.about(to, 0), state);
        Due.is(what + " is not answered", x.count(1), sent);
    }

    private static void step1Shapes() {
        StreamPair x = Due.inState(4);
        for (int n = 0; n < 20; n++) {
            byte[] row = new byte[n];
            System.arraycopy(Due.forged(1, Due.ACK, 1001, 5001, 9, NONE, NONE), 0, row, 0, n);
            if (n >= 18) {
                Due.mend(row);
            }
            dropped(n + " bytes", x, 1, row);
        }
        for (int offset = 0; offset < 16; offset++) {
            byte[] row = Due.forged(1, Due.ACK, 1001, 5001, 9, NONE, new byte[7]);
            row[12] = (byte) (offset << 4 | 15);
            Due.mend(row);
            if (offset < 5 || offset > 6) {
                dropped("data offset " + offset, x, 1, row);
            } else {
                Due.comes(x, 1, row);
                Due.is("data offset " + offset + " is not dropped", x.about(1, 16), 25);
                Due.is("data", x.about(1, 2), 7);
            }
        }
        Due.is("others are none", x.about(0, 16), 0);
        StreamPair y = Due.inState(4);
        byte[] whole = Due.forged(1, Due.ACK, 1001, 5001, 9, new byte[4], NONE);
        Due.comes(y, 1, whole);
        Due.is("a data offset of all its bytes", y.about(1, 16), 0);
        Due.is("FAR", y.about(1, 8), 9);
    }

    private static void step1Checksum() {
        StreamPair x = Due.inState(4);
        byte[] row = Due.forged(1, Due.ACK, 1001, 5001, 9, NONE, new byte[] {1, 2, 3});
        for (int at = 0; at < row.length; at++) {
            byte[] wrong = row.clone();
            wrong[at] ^= 0x10;
            dropped("a byte altered", x, 1, wrong);
        }
        byte[] longer = new byte[row.length + 1];
        System.arraycopy(row, 0, longer, 0, row.length);
        dropped("a byte more", x, 1, longer);
        Due.comes(x, 1, row);
        Due.is("unread", x.about(1, 2), 3);
        bothZeros();
    }

    /** A checksum of FFFF adds up as one of 0 does. */
    private static void bothZeros() {
        StreamPair x = Due.inState(4);
        byte[] row = Due.forged(1, Due.ACK, 1001, 5001, 9, NONE, new byte[2]);
        row[20] = row[16];
        row[21] = row[17];
        row[16] = 0;
        row[17] = 0;
        Due.is("sum", Due.sum(row), 0xFFFF);
        Due.lay(x, row);
        x.inject(1);
        Due.is("mended", x.flip(0, 0, 0, true), 0);
        x.flip(0, 16, 255, false);
        Due.is("FFFF", x.flip(0, 17, 255, false), 0xFFFF);
        x.deliver(0);
        Due.is("not dropped", x.about(1, 16), 0);
        Due.is("unread", x.about(1, 2), 2);
        Due.comes(x, 1, Due.forged(1, Due.ACK, 1003, 5001, 9, NONE, new byte[2]));
        Due.is("unread", x.about(1, 2), 4);
    }

    private static void step1Ports() {
        StreamPair x = Due.inState(4);
        int[] places = {0, 1, 2, 3};
        for (int to = 0; to < 2; to++) {
            for (int at : places) {
                byte[] row = Due.forged(to, Due.ACK, to == 1 ? 1001 : 5001, to == 1 ? 5001 : 1001, 9, NONE, NONE);
                row[at] ^= 1;
                Due.mend(row);
                dropped("another port", x, to, row);
            }
            dropped("ports of the other way", x, to, Due.forged(1 - to, Due.ACK, 1001, 5001, 9, NONE, NONE));
        }
        x.open(1000, 5000);
        Due.dropAll(x);
        dropped("the port of the connection before", x, 1, Due.forged(1, Due.SYN, 1000, 0, 9, NONE, NONE));
    }

    private static void options() {
        int[][] cases = {
            {536},
            {1000, 2, 4, 3, 232},
            {536, 0, 0, 0, 0},
            {1460, 2, 4, 5, 181},
            {1460, 2, 4, 255, 255},
            {64, 2, 4, 0, 63},
            {64, 2, 4, 0, 0},
            {65, 2, 4, 0, 65},
            {100, 1, 1, 1, 2, 4, 0, 100, 0},
            {536, 0, 2, 4, 0, 100, 0, 0, 0},
            {536, 0, 2, 2, 4, 0, 100, 0, 0},
            {536, 0, 3, 1, 2, 4, 0, 100, 0},
            {536, 1, 0, 2, 2, 4, 0, 100, 1},
            {536, 2, 5, 0, 100, 1, 1, 1, 1},
            {100, 2, 5, 0, 200, 9, 2, 4, 0, 100, 0, 0, 0},
            {66, 2, 4, 0, 66}, {64, 2, 4, 0, 64}, {1459, 2, 4, 5, 179}, {1460, 2, 4, 5, 180},
            {1460, 2, 4, 128, 0}, {256, 2, 4, 1, 0}, {255, 2, 4, 0, 255},
            {200, 2, 4, 0, 100, 2, 4, 0, 200},
            {100, 2, 4, 0, 100, 0, 4, 0, 200},
            {100, 8, 2, 1, 5, 2, 2, 4, 0, 100, 0, 0, 536},
            {100, 5, 2, 2, 4, 0, 100, 0, 0},
            {536, 2, 3, 100, 1},
            {200, 2, 3, 100, 2, 4, 0, 200, 0},
            {536, 2, 2, 0, 0},
            {536, 3, 1, 2, 4, 0, 100, 0, 0},
            {536, 3, 0, 2, 4, 0, 100, 0, 0},
            {536, 3, 9, 2, 4, 0, 100, 0, 0},
            {536, 3, 8, 2, 4, 0, 100, 0, 0},
            {100, 2, 4, 0, 100, 1, 1, 1, 2},
            {100, 2, 4, 0, 100, 1, 1, 2, 4},
            {100, 2, 4, 0, 100, 1, 1, 1, 255},
            {536, 1, 2, 4, 0},
            {300, 254, 4, 2, 4, 2, 4, 1, 44},
            {536, 3, 4, 0, 100}, {536, 254, 4, 0, 100}, {536, 255, 4, 0, 100},
            {100, 2, 4, 0, 100, 3, 4, 0, 200},
        };
        for (int[] one : cases) {
            int n = (one.length - 1) / 4 * 4;
            byte[] row = new byte[n];
            for (int i = 0; i < n; i++) {
                row[i] = (byte) one[1 + i];
            }
            String what = "SEGMENT with options " + Due.hex(row);
            StreamPair x = Due.inState(1);
            Due.comes(x, 1, Due.forged(1, Due.SYN, 1000, 0, 50, row, NONE));
            Due.is(what, x.about(1, 4), 4 * one[0]);
            StreamPair y = Due.inState(2);
            Due.comes(y, 0, Due.forged(0, Due.SYN | Due.ACK, 5000, 1001, 50, row, new byte[] {2, 4, 0, 99}));
            Due.is(what, y.about(0, 4), 4 * one[0]);
            Due.is("ESTABLISHED", y.about(0, 0), 4);
        }
        StreamPair z = Due.inState(4);
        Due.comes(z, 0, Due.forged(0, Due.ACK, 5001, 1001, 50, new byte[] {2, 4, 0, 100}, NONE));
        Due.write(z, 0, 3000);
        Due.is("options count only in SYN", z.about(0, 4), 5840);
    }

    private static void step2Closed() {
        for (int to = 0; to < 2; to++) {
            StreamPair x = Due.inState(2);
            x.close(0);
            x.close(1);
            int sent = x.about(to, 10);
            Due.comes(x, to, Due.RST, 7, 8, 9, 0);
            Due.comes(x, to, Due.RST | Due.ACK, 7, 8, 9, 3);
            Due.is("RST is not answered", x.count(1), 0);
            Due.comes(x, to, Due.ACK, 7, 800, 9, 3);
            Due.segment("answer to ACK", x, 0, 1 - to, 20, Due.RST, 800, 0, 0);
            Due.comes(x, to, Due.ACK | Due.SYN | Due.FIN, 7, 801, 9, 3);
            Due.segment("answer to SYN and ACK", x, 1, 1 - to, 20, Due.RST, 801, 0, 0);
            Due.comes(x, to, 0, 700, 1, 9, 0);
            Due.segment("answer to nothing", x, 2, 1 - to, 20, Due.RST | Due.ACK, 0, 700, 0);
            Due.comes(x, to, Due.SYN, 700, 1, 9, 0);
            Due.segment("answer to SYN", x, 3, 1 - to, 20, Due.RST | Due.ACK, 0, 701, 0);
            Due.comes(x, to, Due.SYN | Due.FIN, -3, 1, 9, 5);
            Due.segment("answer to all", x, 4, 1 - to, 20, Due.RST | Due.ACK, 0, 4, 0);
            Due.is("answers count", x.about(to, 10), sent + 5);
            Due.is("CLOSED", x.about(to, 0), 0);
            Due.is("no end", x.about(to, 1), 0);
        }
    }

    private static void step3Listen() {
        StreamPair x = Due.inState(1);
        Due.comes(x, 1, Due.RST | Due.SYN, 7, 8, 9, 0);
        Due.comes(x, 1, Due.RST | Due.ACK, 7, 8, 9, 0);
        Due.comes(x, 1, Due.FIN, 7, 8, 9, 5);
        Due.comes(x, 1, 0, 7, 8, 9, 0);
        Due.is("not answered", x.count(1), 0);
        Due.comes(x, 1, Due.SYN | Due.ACK, 7, 8, 9, 0);
        Due.segment("answer to ACK", x, 0, 0, 20, Due.RST, 8, 0, 0);
        Due.is("LISTEN", x.about(1, 0), 1);
        Due.is("not dropped in step 1", x.about(1, 16), 0);
        x.drop(0);
        Due.comes(x, 1, Due.SYN | Due.FIN | Due.PSH, 700, 55, 9, 5);
        Due.is("SYN_RCVD", x.about(1, 0), 3);
        Due.segment("SYN and ACK", x, 0, 0, 24, Due.SYN | Due.ACK, 5000, 701, 65535);
        Due.is("FAR", x.about(1, 8), 9);
        Due.is("data is dropped", x.about(1, 2) + x.about(1, 15), 0);
        Due.is("window", x.about(1, 9), 65535);
        Due.is("timer", x.about(1, 11), 1000);
        Due.comes(x, 1, Due.ACK, 701, 5001, 9, 2);
        Due.is("ESTABLISHED", x.about(1, 0), 4);
        Due.is("data comes from there", x.about(1, 2), 2);
    }

    private static void step4SynSent() {
        StreamPair x = Due.inState(2);
        Due.comes(x, 0, Due.ACK, 9, 1000, 50, 0);
        Due.segment("answer to a wrong ACK", x, 0, 1, 20, Due.RST, 1000, 0, 0);
        Due.comes(x, 0, Due.SYN | Due.ACK, 9, 1002, 50, 0);
        Due.segment("answer to a wrong ACK", x, 1, 1, 20, Due.RST, 1002, 0, 0);
        Due.comes(x, 0, Due.RST | Due.ACK, 9, 1002, 50, 0);
        Due.comes(x, 0, Due.RST, 9, 1001, 50, 0);
        Due.comes(x, 0, Due.ACK, 9, 1001, 50, 4);
        Due.comes(x, 0, Due.SYN, 9, 1001, 50, 0);
        Due.comes(x, 0, Due.FIN, 9, 1001, 50, 0);
        for (int number : new int[] {0, 1000, 1002}) {
            Due.comes(x, 0, Due.SYN, 9, number, 50, 0);
            Due.comes(x, 0, Due.FIN, 9, number, 50, 3);
            Due.comes(x, 0, Due.RST, 9, number, 50, 0);
            Due.comes(x, 0, 0, 9, number, 50, 0);
        }
        Due.is("others are not answered", x.count(1), 2);
        Due.is("SYN_SENT", x.about(0, 0), 2);
        Due.is("the timer runs", x.about(0, 11), 1000);
        Due.is("FAR", x.about(0, 8), 0);
        Due.dropAll(x);
        x.tick(1500);
        x.drop(0);
        Due.is("TRIES", x.about(0, 7), 1);
        Due.comes(x, 0, Due.SYN | Due.ACK | Due.FIN, 9, 1001, 50, 4);
        Due.same("END 0", Due.facts(x, 0), "4 0 0 0 2144 65535 2000 0 50 65535 5 -1 0 -1 0 0 0");
        Due.segment("its ACK", x, 0, 1, 20, Due.ACK, 1001, 10, 65535);
        StreamPair y = Due.inState(2);
        Due.comes(y, 0, Due.RST | Due.ACK, 9, 1001, 50, 0);
        Due.is("CLOSED", y.about(0, 0), 0);
        Due.is("RESET", y.about(0, 1), 1);
        Due.is("no timer", y.about(0, 11), -1);
        Due.is("no answer", y.count(1), 0);
    }

    /** RCV is 1001 and EDGE 1101. */
    private static StreamPair withSmallRoom() {
        StreamPair x = new StreamPair();
        x.set(1, 0, 100);
        Due.join(x, 1000, 5000);
        return x;
    }

    private static void step5Window() {
        int[][] cases = {
            {1001, 0, 1}, {1100, 0, 1}, {1101, 0, 0}, {1000, 0, 0}, {1050, 0, 1},
            {1001, 1, 1}, {1100, 1, 1}, {1101, 1, 0}, {1000, 1, 0}, {1000, 2, 1},
            {990, 11, 0}, {990, 12, 1}, {990, 111, 1}, {990, 112, 0}, {1100, 300, 1}, {1001, 1000, 1},
            {1001 + Integer.MIN_VALUE, 0, 0}, {1100 + Integer.MIN_VALUE, 1, 0}, {-1, 0, 0},
        };
        for (int[] one : cases) {
            StreamPair x = withSmallRoom();
            Due.comes(x, 1, Due.ACK, one[0], 5001, 777, one[1]);
            boolean fits = one[2] == 1;
            String what = "SEQ " + one[0] + " of length " + one[1];
            Due.is(what + " tells FAR", x.about(1, 8), one[0] - 1000 > 0 && fits ? 777 : 65535);
            Due.is(what + " is answered", x.count(1), fits && one[1] == 0 ? 0 : 1);
            Due.is("UNREAD and kept", x.about(1, 2) + x.about(1, 15), fits ? inWindow(one[0], one[1]) : 0);
            Due.is("not dropped in step 1", x.about(1, 16), 0);
        }
        StreamPair y = withSmallRoom();
        Due.comes(y, 1, Due.ACK | Due.FIN, 1000, 5001, 777, 0);
        Due.is("a FIN before RCV", y.about(1, 0), 4);
        Due.segment("its answer", y, 0, 0, 20, Due.ACK, 5001, 1001, 100);
        Due.comes(y, 1, Due.ACK | Due.RST, 1000, 5001, 777, 0);
        Due.comes(y, 1, Due.ACK | Due.RST, 1101, 5001, 777, 0);
        Due.is("RST that does not fit is not answered", y.count(1), 1);
        Due.is("ESTABLISHED", y.about(1, 0), 4);
        closedWindow();
    }

    private static int inWindow(int seq, int n) {
        int count = 0;
        for (int i = 0; i < n; i++) {
            count += seq + i >= 1001 && seq + i <= 1100 ? 1 : 0;
        }
        return count;
    }

    private static void closedWindow() {
        StreamPair x = new StreamPair();
        x.set(1, 0, 0);
        Due.join(x, 1000, 5000);
        Due.comes(x, 1, Due.ACK, 1001, 5001, 777, 0);
        Due.is("an ACK at RCV fits a closed window", x.about(1, 8), 777);
        Due.comes(x, 1, Due.ACK, 1001, 5001, 778, 1);
        Due.is("a byte does not", x.about(1, 8), 777);
        Due.is("it is answered", x.count(1), 1);
        Due.comes(x, 1, Due.RST, 1001, 0, 0, 0);
        Due.is("RST does", x.about(1, 1), 1);
    }

    private static void step5TimeWait() {
        StreamPair x = Due.inState(10);
        x.tick(1000);
        Due.dropAll(x);
        Due.is("timer", x.about(0, 11), 3000);
        Due.comes(x, 0, Due.ACK, 4000, 1002, 9, 5);
        Due.is("without FIN", x.about(0, 11), 3000);
        Due.is("answered", x.count(1), 1);
        Due.comes(x, 0, Due.ACK | Due.FIN | Due.RST, 5001, 1002, 9, 0);
        Due.is("with RST", x.about(0, 11), 3000);
        Due.is("not answered", x.count(1), 1);
        Due.comes(x, 0, Due.ACK | Due.FIN, 5001, 1002, 9, 0);
        Due.is("the FIN again", x.about(0, 11), 4000);
        Due.segment("its answer", x, 1, 1, 20, Due.ACK, 1002, 5002, 65535);
        StreamPair y = Due.inState(7);
        Due.comes(y, 0, Due.ACK | Due.FIN, 5001, 1001, 9, 0);
        Due.is("no timer in CLOSE_WAIT", y.about(0, 11), -1);
    }

    private static void step6Reset() {
        for (int state = 3; state <= 10; state++) {
            StreamPair x = Due.inState(state);
            int e = Due.endIn(state);
            int rcv = e == 1 ? 1001 : state <= 6 ? 5001 : 5002;
            Due.comes(x, e, Due.RST, rcv + 1, 0, 0, 0);
            Due.is("RST beside RCV in state " + state, x.about(e, 0), state);
            Due.is("it is answered", x.count(1), 1);
            Due.is("with an ACK", Due.flags(x, 0), Due.ACK);
            Due.is("of RCV", Due.ack(x, 0), rcv);
            Due.comes(x, e, Due.RST | Due.SYN | Due.FIN, rcv, 0, 0, 3);
            Due.is("RST at RCV in state " + state, x.about(e, 0), 0);
            Due.is("RESET", x.about(e, 1), 1);
            Due.is("no timer", x.about(e, 11), -1);
            Due.is("no answer", x.count(1), 1);
        }
    }

    private static void step7Syn() {
        for (int state = 3; state <= 10; state++) {
            StreamPair x = Due.inState(state);
            int e = Due.endIn(state);
            int rcv = e == 1 ? 1001 : state <= 6 ? 5001 : 5002;
            String before = allButSent(x, e);
            Due.comes(x, e, Due.SYN, rcv, 0, 99, 3);
            Due.comes(x, e, Due.SYN | Due.ACK | Due.FIN, rcv + 5, e == 1 ? 5001 : 1001, 99, 3);
            Due.is("two ACKs", x.count(1), 2);
            Due.is("an ACK", Due.flags(x, 0), Due.ACK);
            Due.is("an ACK", Due.flags(x, 1), Due.ACK);
            Due.same("nothing else in state " + state, allButSent(x, e), before);
        }
        StreamPair y = new StreamPair();
        y.open(1000, 5000);
        y.copy(0);
        y.deliver(0);
        y.deliver(0);
        Due.segment("an ACK for the SYN again", y, 1, 0, 20, Due.ACK, 5001, 1001, 65535);
        Due.is("SYN_RCVD", y.about(1, 0), 3);
    }

    private static String allButSent(StreamPair x, int e) {
        String[] facts = Due.facts(x, e).split(" ");
        facts[10] = "";
        return String.join(" ", facts);
    }

    private static void step8NoAck() {
        StreamPair x = withSmallRoom();
        Due.comes(x, 1, Due.PSH, 1001, 5001, 777, 5);
        Due.comes(x, 1, Due.FIN, 1001, 5001, 777, 0);
        Due.comes(x, 1, 0, 1001, 5001, 777, 0);
        Due.is("dropped", x.about(1, 2), 0);
        Due.is("not answered", x.count(1), 0);
        Due.is("FAR", x.about(1, 8), 65535);
        Due.is("ESTABLISHED", x.about(1, 0), 4);
        StreamPair y = Due.inState(3);
        Due.comes(y, 1, 0, 1001, 5001, 777, 0);
        Due.is("SYN_RCVD", y.about(1, 0), 3);
        Due.is("not answered", y.count(1), 0);
    }

    private static void step9SynRcvd() {
        StreamPair x = Due.inState(3);
        Due.comes(x, 1, Due.ACK, 1001, 5000, 777, 4);
        Due.segment("answer to a wrong ACK", x, 0, 0, 20, Due.RST, 5000, 0, 0);
        Due.comes(x, 1, Due.ACK | Due.FIN, 1001, 5002, 777, 0);
        Due.segment("answer to a wrong ACK", x, 1, 0, 20, Due.RST, 5002, 0, 0);
        Due.is("SYN_RCVD", x.about(1, 0), 3);
        Due.is("FAR", x.about(1, 8), 65535);
        Due.is("nothing is unread", x.about(1, 2), 0);
        Due.dropAll(x);
        x.tick(60);
        Due.comes(x, 1, Due.ACK | Due.FIN, 1001, 5001, 777, 4);
        Due.is("ESTABLISHED, and at once CLOSE_WAIT", x.about(1, 0), 7);
        Due.is("FAR", x.about(1, 8), 777);
        Due.is("unread", x.about(1, 2), 4);
        Due.is("SRTT", x.about(1, 13), 60);
        Due.is("no timer", x.about(1, 11), -1);
        Due.is("CWND", x.about(1, 4), 5841);
        Due.segment("its ACK", x, 0, 0, 20, Due.ACK, 5001, 1006, 65531);
    }

    /** Of length 0 is what has no data, no SYN and no FIN; RST does not count. */
    private static void step5Lengths() {
        int[][] cases = {
            {Due.RST, 0, 1}, {Due.RST, 1, 0}, {Due.RST | Due.FIN, 0, 0}, {Due.RST | Due.SYN, 0, 0},
            {Due.RST | Due.ACK | Due.PSH, 0, 1},
        };
        for (int[] one : cases) {
            StreamPair x = new StreamPair();
            x.set(1, 0, 0);
            Due.join(x, 1000, 5000);
            Due.comes(x, 1, one[0], 1001, 5001, 9, one[1]);
            Due.is("RST at RCV of a closed window", x.about(1, 1), one[2]);
            Due.is("no answer", x.count(1), 0);
        }
        int[][] atTheEdges = {
            {Due.ACK | Due.FIN, 1100, 0, 1}, {Due.ACK | Due.FIN, 1101, 0, 0}, {Due.ACK | Due.FIN, 1000, 0, 0},
            {Due.ACK | Due.FIN, 1000, 1, 1}, {Due.ACK | Due.FIN, 1001, 99, 1}, {Due.ACK | Due.FIN, 1000, 100, 1},
            {Due.ACK | Due.FIN, 1000, 101, 0}, {Due.ACK, 1000, 101, 1}, {Due.ACK, 1000, 102, 0},
            {Due.ACK | Due.FIN, 999, 1, 0}, {Due.ACK | Due.FIN, 999, 2, 1},
        };
        for (int[] one : atTheEdges) {
            StreamPair x = withSmallRoom();
            Due.write(x, 1, 10);
            Due.dropAll(x);
            Due.comes(x, 1, one[0], one[1], 5006, 9, one[2]);
            String what = "flags " + one[0] + " SEQ " + one[1] + " data " + one[2];
            Due.is(what + " fits", x.about(1, 3), one[3] == 1 ? 5 : 10);
            Due.is(what + " is answered", x.count(1), 1);
        }
    }

    /** With a closed window only SEQ RCV fits, and only without data; the UNREAD bytes do not matter. */
    private static void step5ClosedWindow() {
        int[][] cases = {{1000, 0, 0}, {1001, 0, 0}, {1010, 0, 0}, {1011, 0, 1}, {1012, 0, 0}, {1011, 1, 0},
            {1001, 10, 0}, {1001, 11, 0}};
        for (int[] one : cases) {
            for (int read = 0; read <= 7; read += 7) {
                StreamPair x = new StreamPair();
                x.set(1, 0, 10);
                Due.join(x, 1000, 5000);
                Due.write(x, 1, 5);
                Due.comes(x, 1, Due.ACK, 1001, 5001, 65535, 10);
                Due.is("EDGE - RCV", x.about(1, 9), 0);
                if (read > 0) {
                    x.read(1, read);
                }
                Due.dropAll(x);
                Due.comes(x, 1, Due.ACK, one[0], 5006, 777, one[1]);
                String what = one[1] + " bytes at " + one[0] + " with " + x.about(1, 2) + " unread";
                Due.is(what + ": not acknowledged", x.about(1, 3), one[2] == 1 ? 0 : 5);
                Due.is(what + ": FAR", x.about(1, 8), one[2] == 1 ? 777 : 65535);
                Due.is(what + ": answered", x.count(1), one[2] == 1 ? 0 : 1);
            }
        }
    }

    /** What lies in the window but not at RCV resets nothing. */
    private static void step6Edges() {
        int[][] cases = {{1000, 0, 4, 0}, {1001, 0, 0, 0}, {1002, 0, 4, 1}, {1100, 0, 4, 1}, {1101, 0, 4, 0},
            {1000, 2, 4, 1}, {1001, 2, 0, 0}, {999, 2, 4, 0}};
        for (int[] one : cases) {
            StreamPair x = withSmallRoom();
            Due.comes(x, 1, Due.RST | Due.ACK, one[0], 5001, 9, one[1]);
            String what = "RST at " + one[0] + " with " + one[1];
            Due.is(what + ": state", x.about(1, 0), one[2]);
            Due.is(what + ": end", x.about(1, 1), one[2] == 0 ? 1 : 0);
            Due.is(what + ": answers", x.count(1), one[3]);
            Due.is("FAR", x.about(1, 8), 65535);
        }
    }

    /** A header of 60 bytes is the longest there is. */
    private static void longestHeader() {
        byte[] options = new byte[40];
        java.util.Arrays.fill(options, (byte) 1);
        options[36] = 2;
        options[37] = 4;
        options[38] = 0;
        options[39] = 100;
        StreamPair x = Due.inState(1);
        Due.comes(x, 1, Due.forged(1, Due.SYN, 1000, 0, 50, options, NONE));
        Due.is("the last option", x.about(1, 4), 400);
        StreamPair y = Due.inState(4);
        Due.comes(y, 1, Due.forged(1, Due.ACK, 1001, 5001, 50, options, new byte[3]));
        Due.is("data behind it", y.about(1, 2), 3);
        byte[] shorter = java.util.Arrays.copyOf(Due.forged(1, Due.ACK, 1001, 5001, 50, options, NONE), 59);
        Due.mend(shorter);
        dropped("a header of 60 bytes in 59", y, 1, shorter);
        byte[] longOption = new byte[40];
        longOption[0] = 9;
        longOption[1] = 40;
        StreamPair z = Due.inState(1);
        Due.comes(z, 1, Due.forged(1, Due.SYN, 1000, 0, 50, longOption, NONE));
        Due.is("an option of all the 40 bytes", z.about(1, 4), 4 * 536);
    }

    /** CLOSED is CLOSED, however it came to that. */
    private static void step2AfterAll() {
        for (int way = 0; way < 4; way++) {
            StreamPair x = Due.inState(way < 2 ? 2 : 4);
            if (way == 0) {
                x.close(0);
            } else if (way == 1) {
                x.tick(1000000);
            } else if (way == 2) {
                x.abort(0);
            } else {
                Due.comes(x, 0, Due.RST, 5001, 0, 0, 0);
            }
            int end = x.about(0, 1);
            Due.dropAll(x);
            Due.comes(x, 0, Due.SYN | Due.ACK, 5000, 1001, 9, 0);
            Due.segment("answer", x, 0, 1, 20, Due.RST, 1001, 0, 0);
            Due.comes(x, 0, Due.FIN, -1, 1001, 9, 1);
            Due.segment("answer", x, 1, 1, 20, Due.RST | Due.ACK, 0, 1, 0);
            Due.is("CLOSED", x.about(0, 0), 0);
            Due.is("its end stays", x.about(0, 1), end);
        }
    }

    /** The SYN tells FAR, WL1 and WL2 in LISTEN and in SYN_SENT, whatever the window is. */
    private static void windowsOfSyns() {
        int[] windows = {0, 1, 65535};
        for (int window : windows) {
            StreamPair x = Due.inState(1);
            Due.comes(x, 1, Due.SYN, 1000, 0, window, 0);
            Due.is("FAR of END 1", x.about(1, 8), window);
            StreamPair y = Due.inState(2);
            Due.comes(y, 0, Due.SYN | Due.ACK, 5000, 1001, window, 0);
            Due.is("FAR of END 0", y.about(0, 8), window);
            Due.is("ESTABLISHED", y.about(0, 0), 4);
        }
    }

    /** 0 is a checksum as any other, not one that was left out. */
    private static void noChecksum() {
        StreamPair x = Due.inState(4);
        byte[] row = Due.forged(1, Due.ACK, 1001, 5001, 9, NONE, new byte[] {1, 2, 3});
        Due.put(row, 16, 2, 0);
        dropped("a checksum of 0", x, 1, row);
        Due.put(row, 16, 2, 0xFFFF);
        dropped("a checksum of FFFF", x, 1, row);
    }

    /** An answer tells no window: EDGE stays, though ROOM has grown. */
    private static void answersLeaveTheWindow() {
        int[] states = {0, 2, 3};
        for (int state : states) {
            StreamPair x = new StreamPair();
            int e = Due.endIn(state);
            x.set(e, 0, 100);
            x.open(1000, 5000);
            if (state == 3) {
                x.deliver(0);
            } else if (state == 0) {
                x.close(0);
            }
            Due.dropAll(x);
            Due.is("state", x.about(e, 0), state);
            x.set(e, 0, 500);
            Due.comes(x, e, Due.ACK, e == 1 ? 1001 : 5001, 77, 9, 0);
            Due.segment("answer in state " + state, x, 0, 1 - e, 20, Due.RST, 77, 0, 0);
            Due.is("EDGE - RCV", x.about(e, 9), 100);
        }
    }
}
