/** Sends groups to a desk; makes their blocks by itself, not by the desk's own block(). */
final class Sender {
    /** As a block's information: the block is sent so that no burst puts it right. */
    static final int RUINED = -1;
    static final int A = 0;
    static final int B = 1;
    static final int C = 2;
    static final int D = 3;
    static final int C_PRIME = 4;

    private static final int[] OFFSETS = {0b0011111100, 0b0110011000, 0b0101101000, 0b0110110100, 0b1101010000};
    /** Two wrong bits, seven apart: BlocksTest tries that no burst of five has their rest. */
    static final int WRONG_BITS = 0b1000001;

    final RdsDesk desk;
    /** Calls of the desk, as far as they go through here or are counted by who asks. */
    int calls;

    Sender() {
        this(new RdsDesk());
    }

    Sender(RdsDesk desk) {
        this.desk = desk;
    }

    /** The check by a shift register, as a transmitter has it. */
    static int block(int information, int letter) {
        int register = 0;
        for (int i = 15; i >= 0; i--) {
            int back = (information >> i & 1) ^ (register >> 9 & 1);
            register = register << 1 & 1023;
            if (back == 1) {
                register ^= 0b0110111001;
            }
        }
        return (information & 0xFFFF) << 10 | register ^ OFFSETS[letter];
    }

    /** A group's block 1: type times 2 and version, then TP, PTY and the last five bits. */
    static int second(int typeAndVersion, int tp, int pty, int five) {
        return typeAndVersion << 11 | tp << 10 | pty << 5 | five;
    }

    void words(int... words) {
        for (int word : words) {
            desk.feed(word, 26);
            calls++;
        }
    }

    void one(int information, int letter) {
        words(information == RUINED ? block(0x5555, letter) ^ WRONG_BITS : block(information, letter));
    }

    /** The letter of block 2 goes by the version that b tells; C, if b is ruined. */
    void group(int a, int b, int c, int d) {
        one(a, A);
        one(b, B);
        one(c, b != RUINED && (b >> 11 & 1) == 1 ? C_PRIME : C);
        one(d, D);
    }

    /** A group of a type and version, whose block 0 has the PI; TP and PTY are all ones, next to the five bits. */
    void typed(int pi, int typeAndVersion, int five, int c, int d) {
        group(pi, second(typeAndVersion, 1, 31, five), c, d);
    }

    /** A desk in sync behind one group that tells PI, TP and PTY alone (it is of type 11A). */
    static Sender synced(int pi) {
        Sender sender = new Sender();
        sender.typed(pi, 22, 0, 0, 0);
        return sender;
    }

    /** A desk in sync that knows something of everything, with a list, a name and a kind under way. */
    static Sender filled(int pi) {
        Sender sender = synced(pi);
        sender.fill(pi);
        return sender;
    }

    void fill(int pi) {
        for (int s = 0; s < 4; s++) {
            typed(pi, 0, 0b11100 | s, 225 << 8 | 9, 0x4142);
        }
        typed(pi, 0, 0, 227 << 8 | 250, 0x4142);
        typed(pi, 2, 0, 0x00E1, 1);
        typed(pi, 2, 0, 0x3005, 1);
        typed(pi, 2, 0, 0x7123, 1);
        typed(pi, 4, 0, 0x410D, 0x4142);
        typed(pi, 4, 3, 0x410D, 0x4142);
        typed(pi, 6, 22, 0xABCD, 19415);
        typed(pi, 8, 1, 0x1234, 0x0001);
        typed(pi, 20, 0, 0x4142, 0x4344);
        typed(pi, 20, 1, 0x4142, 0x4344);
        typed(pi, 20, 1, 0x4142, 0x4344);
        typed(pi, 22, 31, 0x1234, 0x5678);
        for (int v = 0; v < 16; v++) {
            typed(pi, 28, 16 | v, 0x4142, 8);
        }
    }
}
