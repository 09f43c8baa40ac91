/** Promises 6 and 7: state and group; SEARCH, SYNC and LOST. */
public final class SyncTest {
    private static final Due TEST = new Due("SyncTest");
    private static final int R = Sender.RUINED;

    public static void main(String[] args) {
        syncByDistance();
        syncNeedsThePlace();
        syncAmongOtherBits();
        syncAtEachPlace();
        blocksAheadAreLookedAt();
        followsThePlaces();
        placeTwo();
        placeTwoRighted();
        wholeAndTaken();
        lostInSync();
        lostByTheLastBlock();
        lostAtASync();
        lossNeedsABlock();
        fiftyCount();
        newSearchBehindLost();
        restOfAFeedBehindLost();
        groups();
        wrongWhats();
        TEST.end();
    }

    private static void dueState(RdsDesk desk, int what, int want) {
        TEST.due("state(" + what + ")", desk.state(what), want);
    }

    private static void dueGroup(RdsDesk desk, int... wants) {
        for (int what = 0; what < wants.length; what++) {
            TEST.due("group(" + what + ")", desk.group(what), wants[what]);
        }
    }

    /** A HIT n blocks ahead, n 1, 2 or 3, is enough; 4 is not. */
    private static void syncByDistance() {
        for (int first = 0; first < 4; first++) {
            for (int n = 1; n <= 4; n++) {
                TEST.about("6: PLACE " + first + ", then a HIT " + n + " blocks behind it");
                Sender sender = new Sender();
                sender.one(0x1111, first);
                for (int i = 1; i < n; i++) {
                    sender.one(R, (first + i) % 4);
                }
                dueState(sender.desk, 0, 0);
                dueState(sender.desk, 9, -1);
                sender.one(0x2222, (first + n) % 4);
                dueState(sender.desk, 0, n <= 3 ? 1 : 0);
                dueState(sender.desk, 7, n <= 3 ? 1 : 0);
                dueState(sender.desk, 9, n <= 3 ? (first + n + 1) % 4 : -1);
            }
        }
    }

    private static void syncNeedsThePlace() {
        for (int first = 0; first < 4; first++) {
            for (int then = 0; then < 4; then++) {
                TEST.about("6: PLACE " + first + ", then PLACE " + then);
                Sender sender = new Sender();
                sender.one(0x1111, first);
                sender.one(0x2222, then);
                dueState(sender.desk, 0, (first + 1) % 4 == then ? 1 : 0);
            }
        }
        TEST.about("6: C' is a HIT as C");
        Sender sender = new Sender();
        sender.one(0x1111, Sender.B);
        sender.one(0x2222, Sender.C_PRIME);
        dueState(sender.desk, 9, 3);
        sender = new Sender();
        sender.one(0x1111, Sender.C_PRIME);
        sender.one(0x2222, Sender.D);
        dueState(sender.desk, 9, 0);
    }

    private static void syncAmongOtherBits() {
        for (int ahead = 1; ahead <= 25; ahead++) {
            TEST.about("6: " + ahead + " other bits ahead");
            Sender sender = new Sender();
            sender.desk.feed(0, ahead);
            sender.one(0x1111, Sender.A);
            sender.one(0x2222, Sender.B);
            dueState(sender.desk, 0, 1);
            dueState(sender.desk, 2, 2);
            dueState(sender.desk, 1, 52 + ahead);
        }
        TEST.about("6: a HIT 27 bits ahead is none");
        Sender sender = new Sender();
        sender.one(0x1111, Sender.A);
        sender.desk.feed(0, 1);
        sender.one(0x2222, Sender.B);
        dueState(sender.desk, 0, 0);
    }

    /** Only the GROUP of the block that made the SYNC is looked at; what was ahead of the SEARCH is MISSING. */
    private static void syncAtEachPlace() {
        int[] looked = {1, 2, 2, 2};
        for (int place = 0; place < 4; place++) {
            TEST.about("6: SYNC at PLACE " + place);
            Sender sender = new Sender();
            sender.one(0x1000, (place + 3) % 4);
            sender.one(0x2000, place);
            dueState(sender.desk, 2, looked[place]);
            dueState(sender.desk, 5, place == 3 ? 1 : 0);
            for (int next = place + 1; next < 4; next++) {
                sender.one(0x3000, next);
            }
            dueState(sender.desk, 5, 1);
            dueState(sender.desk, 6, place <= 1 ? 1 : 0);
            int[] hows = {sender.desk.group(4), sender.desk.group(5), sender.desk.group(6), sender.desk.group(7)};
            for (int i = 0; i < 4; i++) {
                TEST.due("group(" + (4 + i) + ")", hows[i], place >= 2 && i < place - 1 ? 3 : 0);
            }
        }
    }

    private static void blocksAheadAreLookedAt() {
        TEST.about("6: a block ahead of the SYNC is put right");
        Sender sender = new Sender();
        sender.words(Sender.block(0x1234, Sender.A) ^ 0b10101 << 12);
        sender.one(R, Sender.B);
        sender.one(0x0F0F, Sender.C);
        dueState(sender.desk, 0, 0);
        sender.one(0x4321, Sender.D);
        dueState(sender.desk, 2, 2);
        dueState(sender.desk, 3, 1);
        dueState(sender.desk, 4, 1);
        dueState(sender.desk, 10, 1);
        dueState(sender.desk, 5, 1);
        dueState(sender.desk, 6, 0);
        dueGroup(sender.desk, 0x1234, -1, 0x0F0F, 0x4321, 1, 2, 0, 0, -1);
        TEST.about("6: a block whose first bit is ahead of the SEARCH is MISSING");
        sender = new Sender();
        sender.desk.feed(Sender.block(0x1234, Sender.A), 25);
        sender.one(0x5000, Sender.B);
        sender.one(0x0F0F, Sender.C);
        sender.one(0x4321, Sender.D);
        dueState(sender.desk, 2, 3);
        dueGroup(sender.desk, -1, 0x5000, 0x0F0F, 0x4321, 3, 0, 0, 0, 10);
    }

    private static void followsThePlaces() {
        TEST.about("6: PLACES follow one another");
        Sender sender = Sender.synced(7);
        for (int i = 0; i < 12; i++) {
            dueState(sender.desk, 9, i % 4);
            sender.one(0, i % 4);
        }
        dueState(sender.desk, 2, 16);
        TEST.about("6: a block of another LETTER is none of its PLACE");
        sender.desk.set(0, 50);
        sender.one(0x1111, Sender.B);
        sender.one(0x1111, Sender.C);
        dueState(sender.desk, 4, 2);
        dueState(sender.desk, 2, 16);
        dueState(sender.desk, 0, 1);
        TEST.about("6: a SYNC begins at the bit behind its block");
        sender = new Sender();
        sender.desk.feed(0, 11);
        sender.one(1, Sender.A);
        sender.one(2, Sender.B);
        sender.desk.feed(Sender.block(3, Sender.C) >> 1, 25);
        dueState(sender.desk, 9, 2);
        sender.desk.feed(Sender.block(3, Sender.C), 1);
        dueState(sender.desk, 9, 3);
        dueState(sender.desk, 2, 3);
    }

    private static void placeTwo() {
        int[] seconds = {0x0000, 0x0800, R};
        int[] letters = {Sender.C, Sender.C_PRIME};
        for (int b : seconds) {
            for (int letter : letters) {
                TEST.about("7: BLOCK 1 " + b + ", then LETTER " + letter);
                Sender sender = Sender.synced(7);
                sender.one(7, Sender.A);
                sender.one(b, Sender.B);
                sender.one(0x0F0F, letter);
                sender.one(0, Sender.D);
                dueGroup(sender.desk, 7, b, 0x0F0F, 0, 0, b == R ? 2 : 0, 0, 0, b == R ? -1 : b >> 11);
            }
        }
    }

    /** A wrong BLOCK 2 is put right to the LETTER of the version that BLOCK 1 tells, and not without one. */
    private static void placeTwoRighted() {
        int[] seconds = {0x0000, 0x0800, R};
        int[] letters = {Sender.C, Sender.C_PRIME};
        for (int b : seconds) {
            for (int letter : letters) {
                TEST.about("7: BLOCK 1 " + b + ", then a wrong BLOCK of LETTER " + letter);
                Sender sender = Sender.synced(7);
                sender.one(7, Sender.A);
                sender.one(b, Sender.B);
                // Bit 16: no burst of five makes it the other one of C and C'.
                sender.words(Sender.block(0x0F0F, letter) ^ 1 << 16);
                sender.one(0, Sender.D);
                boolean righted = b != R && b >> 11 == (letter == Sender.C ? 0 : 1);
                dueGroup(sender.desk, 7, b, righted ? 0x0F0F : -1, 0, 0, b == R ? 2 : 0, righted ? 1 : 2, 0);
            }
        }
        TEST.about("7: a RIGHTED BLOCK 1 tells the version too");
        Sender sender = Sender.synced(7);
        sender.one(7, Sender.A);
        sender.words(Sender.block(0x0800, Sender.B) ^ 1 << 21);
        sender.words(Sender.block(0x0F0F, Sender.C_PRIME) ^ 1);
        sender.words(Sender.block(0x1111, Sender.D) ^ 0b11011);
        dueGroup(sender.desk, 7, 0x0800, 0x0F0F, 0x1111, 0, 1, 1, 1, 1);
        dueState(sender.desk, 6, 2);
    }

    private static void wholeAndTaken() {
        TEST.about("6: GROUPS TAKEN, WHOLE ones");
        Sender sender = Sender.synced(7);
        dueState(sender.desk, 5, 1);
        dueState(sender.desk, 6, 1);
        int[][] groups = {{R, 0, 0, 0}, {7, R, 0, 0}, {7, 0, R, 0}, {7, 0, 0, R}, {R, R, R, R}, {7, 0, 0, 0}};
        for (int i = 0; i < groups.length; i++) {
            sender.group(groups[i][0], groups[i][1], groups[i][2], groups[i][3]);
            dueState(sender.desk, 5, i + 2);
            dueState(sender.desk, 6, i == 5 ? 2 : 1);
        }
        dueState(sender.desk, 4, 8);
        dueState(sender.desk, 2, 20);
    }

    private static void lostInSync() {
        TEST.about("6: LOST in SYNC: the GROUP at hand is not taken");
        Sender sender = Sender.synced(7);
        sender.desk.set(5, 3);
        sender.group(7, R, 0, 0);
        sender.one(9, Sender.A);
        sender.one(R, Sender.B);
        dueState(sender.desk, 10, 2);
        dueState(sender.desk, 8, 0);
        sender.one(R, Sender.C);
        dueState(sender.desk, 0, 0);
        dueState(sender.desk, 4, 3);
        dueState(sender.desk, 5, 2);
        dueState(sender.desk, 8, 1);
        dueState(sender.desk, 9, -1);
        dueState(sender.desk, 10, 0);
        dueGroup(sender.desk, 7, -1, 0, 0, 0, 2, 0, 0, -1);
        TEST.due("programme(0)", sender.desk.programme(0), 7);
    }

    private static void lostByTheLastBlock() {
        TEST.about("6: LOST by a BLOCK 3: the GROUP is taken");
        Sender sender = Sender.synced(7);
        sender.desk.set(5, 2);
        sender.group(9, 0x0400, R, R);
        dueState(sender.desk, 0, 0);
        dueState(sender.desk, 5, 2);
        dueState(sender.desk, 8, 1);
        dueGroup(sender.desk, 9, 0x0400, -1, -1, 0, 0, 2, 2, 0);
        TEST.due("programme(0)", sender.desk.programme(0), 9);
        TEST.due("programme(1)", sender.desk.programme(1), 1);
    }

    private static void lostAtASync() {
        TEST.about("6: LOST at a SYNC");
        Sender sender = new Sender();
        sender.desk.set(5, 1);
        sender.one(7, Sender.A);
        sender.one(R, Sender.B);
        sender.one(R, Sender.C);
        dueState(sender.desk, 7, 0);
        sender.one(0, Sender.D);
        dueState(sender.desk, 0, 0);
        dueState(sender.desk, 7, 1);
        dueState(sender.desk, 8, 1);
        dueState(sender.desk, 2, 1);
        dueState(sender.desk, 4, 1);
        dueState(sender.desk, 5, 0);
        dueState(sender.desk, 9, -1);
        dueGroup(sender.desk, -1, -1, -1, -1, -1, -1, -1, -1, -1);
        TEST.about("6: none of the new SEARCH's bits have come");
        sender.one(7, Sender.A);
        dueState(sender.desk, 0, 0);
        sender.one(0, Sender.B);
        dueState(sender.desk, 0, 1);
        dueState(sender.desk, 2, 3);
        dueState(sender.desk, 7, 2);
    }

    private static void lossNeedsABlock() {
        TEST.about("6: a lower LOSS waits for the next block, which may be OK");
        Sender sender = Sender.synced(7);
        sender.one(R, Sender.A);
        sender.one(R, Sender.B);
        sender.one(1, Sender.C);
        sender.desk.set(5, 1);
        dueState(sender.desk, 0, 1);
        dueState(sender.desk, 10, 2);
        sender.one(2, Sender.D);
        dueState(sender.desk, 0, 0);
        dueState(sender.desk, 2, 6);
        dueState(sender.desk, 5, 2);
        dueGroup(sender.desk, -1, -1, 1, 2, 2, 2, 0, 0, -1);
    }

    /** The window slides: the 51st block pushes the first one out. */
    private static void fiftyCount() {
        TEST.about("6: the latest 50 count");
        Sender sender = Sender.synced(7);
        sender.one(R, Sender.A);
        for (int i = 1; i < 50; i++) {
            sender.one(0, i % 4);
        }
        dueState(sender.desk, 10, 1);
        sender.one(0, Sender.C);
        dueState(sender.desk, 10, 0);
        TEST.about("6: blocks ahead of the SYNC count");
        sender = new Sender();
        sender.one(7, Sender.A);
        sender.one(R, Sender.B);
        sender.one(0, Sender.C);
        for (int i = 3; i < 51; i++) {
            sender.one(0, i % 4);
        }
        dueState(sender.desk, 10, 1);
        sender.one(0, Sender.D);
        dueState(sender.desk, 10, 0);
        dueState(sender.desk, 4, 1);
        TEST.about("6: the very first of those that count goes when the 51st comes");
        sender = new Sender();
        sender.one(R, Sender.A);
        for (int i = 1; i < 50; i++) {
            sender.one(0, i % 4);
        }
        dueState(sender.desk, 2, 49);
        dueState(sender.desk, 10, 1);
        sender.one(0, Sender.C);
        dueState(sender.desk, 10, 0);
        TEST.about("6: a SYNC behind one of more than fifty blocks counts from its own begin");
        sender.desk.set(5, 2);
        sender.one(R, Sender.D);
        sender.one(R, Sender.A);
        dueState(sender.desk, 8, 1);
        sender.one(R, Sender.A);
        for (int i = 1; i < 50; i++) {
            sender.one(0, i % 4);
        }
        dueState(sender.desk, 10, 1);
        sender.one(0, Sender.C);
        dueState(sender.desk, 10, 0);
        TEST.about("6: those of an earlier SYNC don't count");
        sender = Sender.synced(7);
        sender.desk.set(5, 2);
        sender.one(R, Sender.A);
        sender.one(R, Sender.B);
        dueState(sender.desk, 8, 1);
        sender.typed(7, 22, 0, 0, 0);
        sender.one(R, Sender.A);
        dueState(sender.desk, 10, 1);
        dueState(sender.desk, 0, 1);
    }

    private static void newSearchBehindLost() {
        TEST.about("6: HITS ahead of LOST don't count");
        Sender sender = Sender.synced(7);
        sender.desk.set(5, 1);
        sender.one(7, Sender.A);
        sender.one(R, Sender.B);
        dueState(sender.desk, 0, 0);
        sender.one(1, Sender.C);
        dueState(sender.desk, 0, 0);
        sender.one(2, Sender.D);
        dueState(sender.desk, 0, 1);
        dueGroup(sender.desk, -1, -1, 1, 2, 3, 3, 0, 0, -1);
        dueState(sender.desk, 1, 8 * 26);
        lastBitOfALostBlock(0x0007);
        lastBitOfALostBlock(0x8007);
    }

    /** 25 bits behind LOST are no block, not even with the bit ahead of them. */
    private static void lastBitOfALostBlock(int information) {
        TEST.about("6: 25 bits behind LOST");
        for (int ruin = 0; ruin < 16; ruin++) {
            Sender sender = Sender.synced(7);
            sender.desk.set(0, 1);
            sender.words(Sender.block(ruin, Sender.A) ^ Sender.WRONG_BITS);
            sender.desk.feed(Sender.block(information, Sender.C), 25);
            sender.one(0x0F0F, Sender.D);
            dueState(sender.desk, 7, 1);
            dueState(sender.desk, 8, 1);
        }
    }

    private static void restOfAFeedBehindLost() {
        TEST.about("6: bits of one feed that come behind LOST are the new SEARCH's");
        Sender sender = Sender.synced(7);
        sender.desk.set(5, 1);
        int ruined = Sender.block(0x5555, Sender.A) ^ Sender.WRONG_BITS;
        int next = Sender.block(9, Sender.A);
        sender.desk.feed(ruined >> 10, 16);
        sender.desk.feed(ruined << 16 | next >> 10, 26);
        dueState(sender.desk, 0, 0);
        sender.desk.feed(next, 10);
        sender.one(0, Sender.B);
        dueState(sender.desk, 0, 1);
        dueState(sender.desk, 9, 2);
        dueState(sender.desk, 2, 6);
    }

    private static void groups() {
        TEST.about("7: the latest GROUP that was TAKEN");
        Sender sender = Sender.synced(7);
        sender.group(0xFFFF, 0xFFFF, 0xFFFF, 0xFFFF);
        dueGroup(sender.desk, 0xFFFF, 0xFFFF, 0xFFFF, 0xFFFF, 0, 0, 0, 0, 31);
        sender.one(1, Sender.A);
        sender.one(2, Sender.B);
        sender.one(3, Sender.C);
        dueGroup(sender.desk, 0xFFFF, 0xFFFF, 0xFFFF, 0xFFFF, 0, 0, 0, 0, 31);
        sender.one(4, Sender.D);
        dueGroup(sender.desk, 1, 2, 3, 4, 0, 0, 0, 0, 0);
        sender.group(R, R, R, R);
        dueGroup(sender.desk, -1, -1, -1, -1, 2, 2, 2, 2, -1);
    }

    private static void wrongWhats() {
        TEST.about("6, 7: another what");
        RdsDesk desk = Sender.synced(7).desk;
        int[] wrong = {-1, -2, 11, 12, Integer.MAX_VALUE, Integer.MIN_VALUE, Integer.MIN_VALUE + 3};
        for (int what : wrong) {
            dueState(desk, what, -1);
            TEST.due("group(" + what + ")", desk.group(what), -1);
        }
        TEST.due("group(9)", desk.group(9), -1);
    }
}
