/** Promise 8: programme; PI and what another one does. */
public final class ProgrammeTest {
    private static final Due TEST = new Due("ProgrammeTest");
    private static final int R = Sender.RUINED;

    public static void main(String[] args) {
        identity();
        identityOfBlockTwo();
        anotherIdentity();
        firstIdentityForgetsNothing();
        trafficAndType();
        switches();
        decoderBits();
        item();
        slow();
        unknownBlocks();
        otherTypesTellNothing();
        wrongWhats();
        TEST.end();
    }

    private static void due(Sender sender, int what, int want) {
        TEST.due("programme(" + what + ")", sender.desk.programme(what), want);
    }

    private static void identity() {
        TEST.about("8: PI");
        Sender sender = Sender.synced(0);
        due(sender, 0, 0);
        sender.group(R, 0, 5, 5);
        due(sender, 0, 0);
        sender.group(0xFFFF, R, 5, 5);
        due(sender, 0, 0xFFFF);
        sender = new Sender();
        sender.one(3, Sender.C);
        sender.one(3, Sender.D);
        due(sender, 0, -1);
    }

    private static void identityOfBlockTwo() {
        TEST.about("8: PI of a BLOCK 2 with C'");
        Sender sender = Sender.synced(7);
        sender.group(R, 0x0800, 9, 0);
        due(sender, 0, 9);
        sender.group(8, 0x0800, 9, 0);
        due(sender, 0, 8);
        sender.one(R, Sender.A);
        sender.one(R, Sender.B);
        sender.one(10, Sender.C_PRIME);
        sender.one(0, Sender.D);
        due(sender, 0, 10);
        sender.one(R, Sender.A);
        sender.one(0x0800, Sender.B);
        sender.words(Sender.block(11, Sender.C_PRIME) ^ 7);
        sender.one(0, Sender.D);
        due(sender, 0, 11);
        TEST.about("8: a BLOCK 2 with C bears no PI, whatever the version");
        sender.one(R, Sender.A);
        sender.one(0x0800, Sender.B);
        sender.one(12, Sender.C);
        sender.one(0, Sender.D);
        due(sender, 0, 11);
        sender.group(R, 0x0000, 12, 0);
        due(sender, 0, 11);
        TEST.about("8: a BLOCK 2 with C' bears it, whatever the version");
        sender.one(R, Sender.A);
        sender.one(0x0000, Sender.B);
        sender.one(13, Sender.C_PRIME);
        sender.one(0, Sender.D);
        due(sender, 0, 13);
    }

    /** All of 2 and 3 goes; SYNC and its counts stay. */
    private static void anotherIdentity() {
        TEST.about("8: another PI");
        Sender sender = Sender.filled(7);
        sender.group(8, R, 0, 0);
        due(sender, 0, 8);
        RdsDesk desk = sender.desk;
        for (int what = 1; what <= 9; what++) {
            due(sender, what, -1);
        }
        for (int what = 0; what <= 5; what++) {
            TEST.due("reports(" + what + ")", desk.reports(what), 0);
        }
        for (int what = 0; what <= 4; what++) {
            TEST.due("letter(" + what + ", 0)", desk.letter(what, 0), -1);
        }
        for (int what = 0; what <= 2; what++) {
            TEST.due("marks(" + what + ")", desk.marks(what), 0);
        }
        for (int what = 0; what <= 12; what++) {
            TEST.due("time(" + what + ")", desk.time(what), -1);
            TEST.due("tag(" + what + ")", desk.tag(what), -1);
            TEST.due("other(0, " + what + ")", desk.other(0, what), -1);
        }
        TEST.due("frequency(0)", desk.frequency(0), -1);
        TEST.due("oda(0, 0)", desk.oda(0, 0), -1);
        TEST.due("otherLetter(0, 0)", desk.otherLetter(0, 0), -1);
        TEST.due("group(0)", desk.group(0), 8);
        TEST.due("state(0)", desk.state(0), 1);
        TEST.due("state(7)", desk.state(7), 1);
        TEST.due("state(4)", desk.state(4), 1);
        TEST.about("8: what was under way goes with it");
        sender.typed(8, 0, 0, 9 << 8 | 9, 0x4142);
        sender.typed(8, 0, 0, 9 << 8 | 9, 0x4142);
        TEST.due("reports(3)", desk.reports(3), 0);
        TEST.due("marks(0)", desk.marks(0), 1);
        TEST.about("8: the same GROUP is taken behind that");
        sender.typed(8, 0, 0, 226 << 8 | 250, 0x4142);
        sender.typed(9, 0, 0b11000, 225 << 8 | 9, 0x4142);
        due(sender, 0, 9);
        due(sender, 3, 1);
        due(sender, 4, 1);
        TEST.due("frequency(0)", desk.frequency(0), 88400);
        TEST.due("reports(3)", desk.reports(3), 1);
        TEST.due("marks(0)", desk.marks(0), 1);
        TEST.about("8: a PI of a BLOCK 2 is another one too");
        sender.group(R, Sender.second(31, 0, 0, 0), 10, 0);
        due(sender, 0, 10);
        TEST.due("reports(3)", desk.reports(3), 0);
    }

    private static void firstIdentityForgetsNothing() {
        TEST.about("8: the first PI, behind what was known without one");
        Sender sender = new Sender();
        sender.one(Sender.second(3, 1, 9, 0), Sender.B);
        sender.one(0, Sender.C);
        sender.one(0x1234, Sender.D);
        due(sender, 0, -1);
        due(sender, 6, 0x1234);
        sender.group(7, R, 0, 0);
        due(sender, 0, 7);
        due(sender, 6, 0x1234);
        due(sender, 2, 9);
        sender.group(7, R, 0, 0);
        due(sender, 6, 0x1234);
    }

    private static void trafficAndType() {
        TEST.about("8: TP and PTY, of every type and version");
        for (int type = 0; type < 32; type++) {
            Sender sender = Sender.synced(7);
            sender.group(7, Sender.second(type, 1, type ^ 21, 0), 7, R);
            due(sender, 1, 1);
            due(sender, 2, type ^ 21);
            sender.group(R, Sender.second(type, 0, 31, 31), 7, R);
            due(sender, 1, 0);
            due(sender, 2, 31);
        }
    }

    private static void switches() {
        int[] types = {0, 1, 31};
        for (int type : types) {
            TEST.about("8: TA and MS, type times 2 and version " + type);
            Sender sender = Sender.synced(7);
            due(sender, 3, -1);
            due(sender, 4, -1);
            due(sender, 5, -1);
            sender.typed(7, type, 0b10000, 7, R);
            due(sender, 3, 1);
            due(sender, 4, 0);
            due(sender, 5, 0);
            sender.typed(7, type, 0b01000, 7, R);
            due(sender, 3, 0);
            due(sender, 4, 1);
        }
        TEST.about("8: 15A has none of them");
        Sender sender = Sender.synced(7);
        sender.typed(7, 30, 31, 0, 0);
        due(sender, 3, -1);
        due(sender, 5, -1);
    }

    private static void decoderBits() {
        int[] types = {0, 1, 31};
        for (int type : types) {
            TEST.about("8: DI, type times 2 and version " + type);
            for (int s = 0; s < 4; s++) {
                Sender sender = Sender.synced(7);
                sender.typed(7, type, 0b100 | s, 7, R);
                due(sender, 5, 8 >> s);
                for (int other = 0; other < 4; other++) {
                    sender.typed(7, type, 0b100 | other, 7, R);
                }
                due(sender, 5, 15);
                sender.typed(7, type, s, 7, R);
                due(sender, 5, 15 - (8 >> s));
            }
        }
        TEST.about("8: 15B bears no NAME");
        Sender sender = Sender.synced(7);
        sender.typed(7, 31, 0, 7, 0x4142);
        TEST.due("marks(0)", sender.desk.marks(0), 0);
    }

    private static void item() {
        TEST.about("8: PIN");
        Sender sender = Sender.synced(7);
        sender.typed(7, 2, 0, R, 0xABCD);
        due(sender, 6, 0xABCD);
        sender.typed(7, 3, 0, R, 0x0001);
        due(sender, 6, 1);
        sender.typed(7, 2, 0, 0x1000, R);
        due(sender, 6, 1);
        for (int what = 7; what <= 9; what++) {
            due(sender, what, -1);
        }
    }

    private static void slow() {
        TEST.about("8: ECC, LANGUAGE, WARNING");
        Sender sender = Sender.synced(7);
        sender.typed(7, 2, 0, 0x0FE1, R);
        due(sender, 7, 0xE1);
        due(sender, 8, -1);
        sender.typed(7, 2, 0, 0xBF89, R);
        due(sender, 8, 0x89);
        due(sender, 9, -1);
        sender.typed(7, 2, 0, 0xFABC, R);
        due(sender, 9, 0xABC);
        int[] others = {1, 2, 4, 5, 6};
        for (int variant : others) {
            sender.typed(7, 2, 0, variant << 12 | 0x077, R);
        }
        due(sender, 7, 0xE1);
        due(sender, 8, 0x89);
        due(sender, 9, 0xABC);
        sender.typed(7, 2, 0, 0x8000, R);
        due(sender, 7, 0);
        sender.typed(7, 3, 0, 0x0055, 0);
        due(sender, 7, 0);
    }

    private static void unknownBlocks() {
        TEST.about("8: nothing of a GROUP whose BLOCK 1 is not known, but PI");
        Sender sender = Sender.synced(7);
        sender.group(7, R, 0x00E1, 0x4142);
        for (int what = 3; what <= 9; what++) {
            due(sender, what, -1);
        }
        TEST.due("marks(0)", sender.desk.marks(0), 0);
        TEST.about("8: a RIGHTED BLOCK tells what it has");
        sender.one(7, Sender.A);
        sender.words(Sender.block(Sender.second(2, 1, 5, 0), Sender.B) ^ 0x1F << 15);
        sender.words(Sender.block(0x00E1, Sender.C) ^ 0x1F << 15);
        sender.words(Sender.block(0x4142, Sender.D) ^ 0x1F << 15);
        due(sender, 1, 1);
        due(sender, 2, 5);
        due(sender, 6, 0x4142);
        due(sender, 7, 0xE1);
    }

    private static void otherTypesTellNothing() {
        int[] types = {7, 9, 10, 11, 12, 13, 14, 15, 16, 17, 18, 19, 21, 22, 23, 24, 25, 26, 27, 30};
        for (int type : types) {
            TEST.about("8: type times 2 and version " + type + " tells nothing more");
            Sender sender = Sender.synced(7);
            for (int five = 0; five < 32; five += 5) {
                sender.typed(7, type, five, 7, 0x0D0D);
            }
            for (int what = 3; what <= 9; what++) {
                due(sender, what, -1);
            }
            for (int what = 0; what <= 5; what++) {
                TEST.due("reports(" + what + ")", sender.desk.reports(what), 0);
            }
            for (int what = 0; what <= 2; what++) {
                TEST.due("marks(" + what + ")", sender.desk.marks(what), 0);
            }
            TEST.due("oda(0, 0)", sender.desk.oda(0, 0), -1);
            TEST.due("other(0, 0)", sender.desk.other(0, 0), -1);
        }
    }

    private static void wrongWhats() {
        TEST.about("8: another what");
        Sender sender = Sender.filled(7);
        int[] wrong = {-1, 10, 11, Integer.MAX_VALUE, Integer.MIN_VALUE};
        for (int what : wrong) {
            due(sender, what, -1);
        }
    }
}
