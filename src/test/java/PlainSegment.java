/** A segment of Plain: where it goes, and its bytes, each 0 .. 255. */
final class PlainSegment {
    final int to;
    final int[] bytes;

    PlainSegment(int to, int[] bytes) {
        this.to = to;
        this.bytes = bytes;
    }

    int number(int at, int size) {
        int value = 0;
        for (int i = 0; i < size; i++) {
            value = value * 256 + bytes[at + i];
        }
        return value;
    }

    void put(int at, int size, int value) {
        for (int i = 0; i < size; i++) {
            bytes[at + i] = value >>> 8 * (size - 1 - i) & 255;
        }
    }

    boolean has(int flag) {
        return (bytes[13] & flag) != 0;
    }

    int seq() {
        return number(4, 4);
    }

    int ack() {
        return number(8, 4);
    }

    int window() {
        return number(14, 2);
    }

    int header() {
        return bytes[12] / 16 * 4;
    }

    int data() {
        return bytes.length - header();
    }

    /** Its length in numbers: data, SYN, FIN. */
    int length() {
        return data() + (has(Due.SYN) ? 1 : 0) + (has(Due.FIN) ? 1 : 0);
    }

    int sum() {
        byte[] row = new byte[bytes.length];
        for (int i = 0; i < row.length; i++) {
            row[i] = (byte) bytes[i];
        }
        return Due.sum(row);
    }

    void mend() {
        put(16, 2, 0);
        put(16, 2, 65535 - sum());
    }

    int toldMss() {
        int told = 536;
        int at = 20;
        while (at < header() && bytes[at] != 0) {
            if (bytes[at] == 1) {
                at++;
                continue;
            }
            if (at + 1 == header() || bytes[at + 1] < 2 || at + bytes[at + 1] > header()) {
                break;
            }
            if (bytes[at] == 2 && bytes[at + 1] == 4) {
                told = number(at + 2, 2);
            }
            at += bytes[at + 1];
        }
        return told < 64 ? 64 : told;
    }
}
