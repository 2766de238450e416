/** SENDING and OUTPUT, at their edges. */
public final class OutputTest {
    public static void main(String[] args) {
        statesThatSend();
        statesThatDoNot();
        piecesOfWhatThereIs();
        piecesOfTheWindow();
        lesserOfWindowAndCrowd();
        lessThanNothingAllowed();
        finOnlyBehindTheData();
        finOnce();
        finAgainBehindTheData();
        timerIsNotSetAnew();
        pushOfWhatIsTheLast();
        numbersGoneBack();
        ackTakesNxtAlong();
        windowGrowsOnly();
        windowFollowsReads();
        freeIsNotBelowZero();
        Due.finish();
    }

    private static void sent(String what, StreamPair x, int... lengths) {
        Due.is(what + ": segments", x.count(1), lengths.length);
        for (int k = 0; k < lengths.length && k < x.count(1); k++) {
            Due.is(what + ": data of segment " + k, x.seen(k, -1) - 20, lengths[k]);
        }
    }

    /** END 0 has 20 bytes that FAR did not let go. */
    private static StreamPair withWaiting(int state) {
        StreamPair x = new StreamPair();
        x.set(1, 0, 10);
        Due.join(x, 1000, 5000);
        Due.write(x, 0, 30);
        if (state == 5 || state == 8) {
            x.close(0);
        }
        if (state >= 7) {
            Due.comes(x, 0, Due.ACK | Due.FIN, 5001, 1001, 10, 0);
        }
        if (state == 9) {
            x.close(0);
        }
        Due.dropAll(x);
        Due.is("state", x.about(0, 0), state);
        return x;
    }

    private static void statesThatSend() {
        int[] states = {4, 5, 7, 8, 9};
        for (int state : states) {
            StreamPair x = withWaiting(state);
            boolean closed = state != 4 && state != 7;
            Due.is("on the way", x.about(0, 14), 10);
            Due.comes(x, 0, Due.ACK, state >= 7 ? 5002 : 5001, 1011, 1000, 0);
            Due.is("segments in state " + state, x.count(1), closed ? 2 : 1);
            Due.is("data", x.seen(0, -1), 40);
            Due.is("PSH", Due.flags(x, 0), Due.ACK | Due.PSH);
            if (closed) {
                Due.is("FIN", Due.flags(x, 1), Due.ACK | Due.FIN);
                Due.is("its SEQ", Due.seq(x, 1), 1031);
            }
            Due.is("the timer", x.about(0, 11), 200);
        }
    }

    private static void statesThatDoNot() {
        int[] states = {6, 10};
        for (int state : states) {
            StreamPair x = Due.inState(state);
            int sent = x.about(0, 10);
            Due.comes(x, 0, Due.ACK, state == 6 ? 5001 : 5002, 1002, 65535, 0);
            Due.is("nothing is sent in state " + state, x.about(0, 10), sent);
            Due.is("state", x.about(0, 0), state);
            Due.is("the timer in state " + state, x.about(0, 11), state == 6 ? -1 : 4000);
        }
    }

    private static StreamPair withSegment64(int room) {
        StreamPair x = new StreamPair();
        x.set(0, 1, 64);
        x.set(1, 0, room);
        Due.join(x, 1000, 5000);
        return x;
    }

    private static void piecesOfWhatThereIs() {
        int[][] cases = {{0}, {1, 1}, {63, 63}, {64, 64}, {65, 64, 1}, {127, 64, 63}, {128, 64, 64}, {129, 64, 64, 1},
            {255, 64, 64, 64, 63}, {256, 64, 64, 64, 64}, {257, 64, 64, 64, 64}, {400, 64, 64, 64, 64}};
        for (int[] one : cases) {
            StreamPair x = withSegment64(65535);
            Due.write(x, 0, one[0]);
            sent("write of " + one[0], x, java.util.Arrays.copyOfRange(one, 1, one.length));
        }
    }

    private static void piecesOfTheWindow() {
        int[][] cases = {{0}, {1, 1}, {63, 63}, {64, 64}, {65, 64}, {127, 64}, {128, 64, 64}, {191, 64, 64},
            {192, 64, 64, 64}};
        for (int[] one : cases) {
            StreamPair x = withSegment64(one[0]);
            Due.write(x, 0, 300);
            sent("write with FAR " + one[0], x, java.util.Arrays.copyOfRange(one, 1, one.length));
            Due.is("the timer", x.about(0, 11), 200);
        }
    }

    private static void lesserOfWindowAndCrowd() {
        int[][] cases = {{255, 192}, {256, 256}, {257, 256}, {319, 256}, {320, 256}, {1000, 256}};
        for (int[] one : cases) {
            StreamPair x = withSegment64(one[0]);
            Due.write(x, 0, 500);
            Due.is("on the way with FAR " + one[0], x.about(0, 14), one[1]);
        }
    }

    /** CWND is 128 and 256 are on the way. */
    private static StreamPair aboveTheCrowd() {
        StreamPair x = withSegment64(65535);
        Due.write(x, 0, 256);
        for (int i = 0; i < 3; i++) {
            Due.comes(x, 0, Due.ACK, 5001, 1001, 65535, 0);
        }
        Due.dropAll(x);
        Due.is("CWND", x.about(0, 4), 128);
        Due.is("on the way", x.about(0, 14), 256);
        return x;
    }

    private static void lessThanNothingAllowed() {
        StreamPair x = aboveTheCrowd();
        Due.write(x, 0, 20);
        Due.is("nothing is sent", x.count(1), 0);
        x.close(0);
        Due.is("nor a FIN before the data", x.count(1), 0);
        Due.comes(x, 0, Due.ACK, 5001, 1129, 65535, 0);
        Due.is("CWND", x.about(0, 4), 160);
        sent("32 are allowed", x, 20, 0);
        StreamPair y = aboveTheCrowd();
        y.close(0);
        sent("a FIN asks for no room", y, 0);
        Due.is("FIN", Due.flags(y, 0), Due.ACK | Due.FIN);
    }

    private static void finOnlyBehindTheData() {
        StreamPair x = withSegment64(64);
        Due.write(x, 0, 65);
        x.close(0);
        sent("a byte waits, and the FIN with it", x, 64);
        Due.comes(x, 0, Due.ACK, 5001, 1065, 0, 0);
        sent("the window is closed", x, 64);
        Due.comes(x, 0, Due.ACK, 5001, 1065, 1, 0);
        sent("now both", x, 64, 1, 0);
        Due.is("data", Due.flags(x, 1), Due.ACK | Due.PSH);
        Due.is("FIN", Due.flags(x, 2), Due.ACK | Due.FIN);
        Due.is("its SEQ", Due.seq(x, 2), 1066);
    }

    private static void finOnce() {
        StreamPair x = Due.joined(1000, 5000);
        Due.write(x, 0, 10);
        x.close(0);
        Due.is("data and FIN", x.count(1), 2);
        Due.comes(x, 0, Due.ACK, 5001, 1001, 65535, 0);
        Due.comes(x, 0, Due.ACK, 5001, 1011, 65535, 0);
        Due.comes(x, 0, Due.ACK, 5001, 1011, 65535, 3);
        Due.is("only the ACK of the data", x.count(1), 3);
        Due.segment("which is behind the FIN", x, 2, 1, 20, Due.ACK, 1012, 5004, 65532);
    }

    private static void finAgainBehindTheData() {
        StreamPair x = withSegment64(65535);
        Due.write(x, 0, 64);
        x.close(0);
        Due.dropAll(x);
        x.tick(200);
        sent("both again, as all the data goes", x, 64, 0);
        Due.is("FIN", Due.flags(x, 1), Due.ACK | Due.FIN);
        StreamPair y = withSegment64(65535);
        Due.write(y, 0, 65);
        y.close(0);
        Due.dropAll(y);
        y.tick(200);
        sent("CWND is one SEGMENT: no FIN", y, 64);
        Due.comes(y, 0, Due.ACK, 5001, 1065, 65535, 0);
        sent("then the rest and the FIN", y, 64, 1, 0);
    }

    private static void timerIsNotSetAnew() {
        StreamPair x = Due.joined(1000, 5000);
        Due.write(x, 0, 10);
        x.tick(50);
        Due.write(x, 0, 10);
        Due.is("write", x.about(0, 11), 150);
        x.close(0);
        Due.is("close", x.about(0, 11), 150);
        Due.comes(x, 0, Due.ACK, 5001, 1001, 65535, 5);
        Due.is("data that comes", x.about(0, 11), 150);
        Due.comes(x, 0, Due.ACK, 5006, 1002, 65535, 0);
        Due.is("but an ACK of one byte", x.about(0, 11), 200);
        Due.comes(x, 0, Due.ACK, 5006, 1022, 65535, 0);
        Due.is("and off when all is acknowledged", x.about(0, 11), -1);
    }

    private static void pushOfWhatIsTheLast() {
        StreamPair x = withSegment64(65535);
        Due.write(x, 0, 64);
        Due.is("PSH", Due.flags(x, 0), Due.ACK | Due.PSH);
        Due.write(x, 0, 10);
        Due.is("PSH", Due.flags(x, 1), Due.ACK | Due.PSH);
        Due.dropAll(x);
        x.tick(200);
        sent("the first again", x, 64);
        Due.is("it is not the last now", Due.flags(x, 0), Due.ACK);
        StreamPair y = withSegment64(65535);
        Due.write(y, 0, 10);
        Due.write(y, 0, 10);
        Due.dropAll(y);
        y.tick(200);
        sent("both at once", y, 20);
        Due.is("PSH", Due.flags(y, 0), Due.ACK | Due.PSH);
    }

    /** UNA 1001, NXT 2461, MAX 4001. */
    private static StreamPair goneBack() {
        StreamPair x = Due.joined(1000, 5000);
        Due.write(x, 0, 3000);
        x.tick(200);
        Due.dropAll(x);
        Due.is("NXT - UNA", x.about(0, 14), 1460);
        return x;
    }

    private static void numbersGoneBack() {
        StreamPair x = goneBack();
        Due.comes(x, 0, Due.ACK, 5001, 1001, 65535, 1);
        Due.segment("an ACK has SEQ NXT", x, 0, 1, 20, Due.ACK, 2461, 5002, 65534);
        x.abort(0);
        Due.segment("RST has SEQ NXT", x, 1, 1, 20, Due.RST | Due.ACK, 2461, 5002, 65534);
        StreamPair y = goneBack();
        Due.comes(y, 0, Due.ACK, 5001, 4002, 65535, 0);
        Due.segment("an ACK for one beyond MAX", y, 0, 1, 20, Due.ACK, 2461, 5001, 65535);
        Due.is("nothing is acknowledged", y.about(0, 3), 3000);
        Due.comes(y, 0, Due.ACK, 5001, 4001, 65535, 0);
        Due.is("MAX is", y.about(0, 3), 0);
        Due.is("NXT is UNA", y.about(0, 14), 0);
        Due.is("no timer", y.about(0, 11), -1);
    }

    private static void ackTakesNxtAlong() {
        int[] acks = {2460, 2461, 2462, 2470, 4000};
        for (int ack : acks) {
            StreamPair x = goneBack();
            Due.comes(x, 0, Due.ACK, 5001, ack, 65535, 0);
            Due.is("the next goes from NXT, or from an ACK beyond it", Due.seq(x, 0), Math.max(ack, 2461));
            Due.is("all is on the way again", x.about(0, 14), 4001 - ack);
        }
    }

    /** EDGE becomes RCV + FREE if that is above it. */
    private static void windowGrowsOnly() {
        int[][] cases = {{99, 100}, {100, 100}, {101, 101}, {0, 100}, {65535, 65535}};
        for (int[] one : cases) {
            StreamPair x = new StreamPair();
            x.set(0, 0, 100);
            Due.join(x, 1000, 5000);
            x.set(0, 0, one[0]);
            Due.write(x, 0, 1);
            Due.is("window with ROOM " + one[0], Due.window(x, 0), one[1]);
            Due.is("EDGE - RCV", x.about(0, 9), one[1]);
        }
    }

    private static void windowFollowsReads() {
        StreamPair x = Due.joined(1000, 5000);
        Due.comes(x, 0, Due.ACK, 5001, 1001, 65535, 30);
        Due.is("window", Due.window(x, 0), 65505);
        x.read(0, 7);
        Due.is("a read alone tells nothing", x.count(1), 1);
        Due.is("EDGE - RCV", x.about(0, 9), 65505);
        Due.write(x, 0, 1);
        Due.is("window", Due.window(x, 1), 65512);
    }

    /** The FIN lies at EDGE, so that RCV goes beyond it, and there are more UNREAD bytes than ROOM. */
    private static void freeIsNotBelowZero() {
        int[] rooms = {0, 1, 5, 8, 9, 10};
        for (int room : rooms) {
            StreamPair x = new StreamPair();
            x.set(1, 0, 10);
            Due.join(x, 1000, 5000);
            x.set(1, 0, room);
            Due.comes(x, 1, Due.ACK | Due.FIN, 1001, 5001, 65535, 10);
            Due.is("unread", x.about(1, 2), 10);
            Due.segment("with ROOM " + room, x, 0, 0, 20, Due.ACK, 5001, 1012, 0);
            Due.is("EDGE - RCV", x.about(1, 9), 0);
        }
    }
}
