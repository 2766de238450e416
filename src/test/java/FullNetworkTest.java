/** THE NETWORK's 512 segments: what is sent, copied or injected beyond is lost, and counted so. */
public final class FullNetworkTest {
    public static void main(String[] args) {
        theLastThatHasRoom();
        copied();
        injected();
        sentByWrite();
        sentByClose();
        sentByAbort();
        sentByTheTimer();
        sentByRead();
        oneOfTwoHasRoom();
        deliveredMakesRoomForItsAnswer();
        droppedMakesRoom();
        openMakesRoom();
        Due.finish();
    }

    /** Both ends ESTABLISHED, data of END 0 at 8, of END 1 at 9, after 504 calls: 8 are left. */
    private static StreamPair full() {
        StreamPair x = new StreamPair();
        almostFull(x);
        for (int n = 18; n < 512; n++) {
            x.copy(0);
        }
        return x;
    }

    /** 18 segments by 10 calls: timers make most of them. */
    private static void almostFull(StreamPair x) {
        x.open(1000, 5000);
        x.tick(183000);
        x.deliver(0);
        x.deliver(8);
        x.deliver(8);
        x.feed(1, 2, 3, 4, 5);
        x.write(0);
        x.feed(1, 2, 3, 4, 5);
        x.write(1);
        x.tick(59999);
    }

    private static void theLastThatHasRoom() {
        StreamPair x = new StreamPair();
        almostFull(x);
        Due.is("on their way", x.count(1), 18);
        for (int n = 19; n <= 512; n++) {
            Due.is("copy", x.copy(0), n);
        }
        Due.is("none is lost", x.count(4), 0);
        Due.is("on their way", x.count(1), 512);
    }

    private static void copied() {
        StreamPair x = full();
        Due.is("copy beyond", x.copy(9), 512);
        Due.is("it is lost", x.count(4), 1);
        Due.is("the newest is another", x.seen(511, -2), 1);
        Due.is("copy beyond", x.copy(511), 512);
        Due.is("it is lost", x.count(4), 2);
        Due.is("copies are not sent", x.about(0, 10), 11);
    }

    private static void injected() {
        StreamPair x = full();
        x.feed(1, 2, 3, 4, 5);
        Due.is("inject beyond", x.inject(0), 512);
        Due.is("it is lost", x.count(4), 1);
        Due.is("the tape is taken", x.count(3), 0);
        Due.is("the newest is another", x.seen(511, -1), 24);
    }

    private static void sentByWrite() {
        StreamPair x = full();
        x.feed(1, 2, 3, 4, 5);
        Due.is("write beyond", x.write(0), 20);
        Due.is("it is lost", x.count(4), 1);
        Due.is("on their way", x.count(1), 512);
        Due.is("it counts as sent", x.about(0, 10), 12);
        Due.is("NXT follows", x.about(0, 14), 40);
        Due.is("it waits to be acknowledged", x.about(0, 3), 40);
        Due.is("the newest is another", x.seen(511, -1), 24);
    }

    private static void sentByClose() {
        StreamPair x = full();
        Due.is("close beyond", x.close(0), 5);
        Due.is("the FIN is lost", x.count(4), 1);
        Due.is("on their way", x.count(1), 512);
        Due.is("it counts as sent", x.about(0, 10), 12);
        Due.is("NXT follows", x.about(0, 14), 21);
    }

    private static void sentByAbort() {
        StreamPair x = full();
        Due.is("abort beyond", x.abort(0), 4);
        Due.is("the RST is lost", x.count(4), 1);
        Due.is("on their way", x.count(1), 512);
        Due.is("it counts as sent", x.about(0, 10), 12);
        Due.is("RESET", x.about(0, 1), 1);
    }

    private static void sentByTheTimer() {
        StreamPair x = full();
        Due.is("until the timer is due", x.about(0, 11), 1);
        x.tick(1);
        Due.is("what is sent again is lost", x.count(4), 1);
        Due.is("it counts as sent", x.about(0, 10), 12);
        Due.is("on their way", x.count(1), 512);
        Due.is("TRIES", x.about(0, 7), 1);
        Due.is("the timer runs", x.about(0, 11), 60000);
    }

    private static void sentByRead() {
        StreamPair x = new StreamPair();
        x.set(0, 0, 0);
        almostFull(x);
        for (int n = 17; n < 512; n++) {
            x.copy(0);
        }
        x.set(0, 0, 5000);
        Due.is("read that opens the window", x.read(0, 1), 0);
        Due.is("its ACK is lost", x.count(4), 1);
        Due.is("it counts as sent", x.about(0, 10), 12);
        Due.is("EDGE follows", x.about(0, 9), 5000);
    }

    private static void oneOfTwoHasRoom() {
        StreamPair x = new StreamPair();
        x.set(0, 1, 64);
        almostFull(x);
        for (int n = 18; n < 511; n++) {
            x.copy(0);
        }
        x.feed(1, 2, 3, 4, 5);
        x.feed(1, 2, 3, 4, 5);
        x.feed(1, 2, 3, 4, 5);
        x.feed(1, 2, 3, 4, 5);
        Due.is("write of two segments", x.write(0), 80);
        Due.is("one is lost", x.count(4), 1);
        Due.is("the first is not", x.seen(511, -1), 84);
    }

    private static void deliveredMakesRoomForItsAnswer() {
        StreamPair x = full();
        Due.is("deliver", x.deliver(8), 512);
        Due.is("none is lost", x.count(4), 0);
        Due.is("an ACK is the newest", x.seen(511, 13), Due.ACK);
        Due.is("it goes to END 0", x.seen(511, -2), 0);
        Due.is("unread", x.about(1, 2), 20);
        Due.is("deliver of the ACK", x.deliver(511), 511);
        Due.is("acknowledged", x.about(0, 3), 0);
        Due.is("copy", x.copy(0), 512);
    }

    private static void droppedMakesRoom() {
        StreamPair x = full();
        Due.is("drop", x.drop(511), 511);
        Due.is("copy", x.copy(8), 512);
        Due.is("none is lost", x.count(4), 0);
        Due.is("it is the newest", x.seen(511, -1), 40);
        Due.is("copy beyond", x.copy(8), 512);
        Due.is("it is lost", x.count(4), 1);
    }

    private static void openMakesRoom() {
        StreamPair x = full();
        x.copy(0);
        x.open(1, 2);
        Due.is("only the SYN is on its way", x.count(1), 1);
        Due.is("lost before stays counted", x.count(4), 1);
        Due.is("sent counts anew", x.about(0, 10), 1);
    }
}
