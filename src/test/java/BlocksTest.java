/** Promises 1 to 5: a new object, feed, block, set, forget. */
public final class BlocksTest {
    private static final Due TEST = new Due("BlocksTest");

    public static void main(String[] args) {
        newObject();
        feedRefuses();
        feedOrder();
        feedTakesTheLowestBits();
        blocks();
        ruinedBlocksStayRuined();
        setRefuses();
        limits();
        limitPlaces();
        lossIsSet();
        forgets();
        forgetKeepsLimitAndLoss();
        TEST.end();
    }

    /** Every answer of a desk that nothing has come to; its LIMIT and LOSS are not seen here. */
    static void asNew(Due test, RdsDesk desk) {
        for (int what = -1; what <= 12; what++) {
            boolean counts = what >= 0 && what <= 10 && what != 9;
            test.due("state(" + what + ")", desk.state(what), counts ? 0 : -1);
            test.due("group(" + what + ")", desk.group(what), -1);
            test.due("programme(" + what + ")", desk.programme(what), -1);
            test.due("reports(" + what + ")", desk.reports(what), what >= 0 && what <= 5 ? 0 : -1);
            test.due("marks(" + what + ")", desk.marks(what), what >= 0 && what <= 2 ? 0 : -1);
            test.due("frequency(" + what + ")", desk.frequency(what), -1);
            test.due("time(" + what + ")", desk.time(what), -1);
            test.due("tag(" + what + ")", desk.tag(what), -1);
            for (int k = 0; k <= 1; k++) {
                test.due("letter(" + what + ", " + k + ")", desk.letter(what, k), -1);
                test.due("oda(" + k + ", " + what + ")", desk.oda(k, what), -1);
                test.due("other(" + k + ", " + what + ")", desk.other(k, what), -1);
                test.due("otherLetter(" + k + ", " + what + ")", desk.otherLetter(k, what), -1);
            }
        }
    }

    private static void newObject() {
        TEST.about("1: new object");
        TEST.due("NONE", RdsDesk.NONE, -1);
        asNew(TEST, new RdsDesk());
    }

    private static void feedRefuses() {
        TEST.about("2: feed refuses");
        RdsDesk desk = new RdsDesk();
        int[] wrong = {0, -1, 27, 32, Integer.MAX_VALUE, Integer.MIN_VALUE};
        for (int n : wrong) {
            TEST.due("feed(5, " + n + ")", desk.feed(5, n), false);
        }
        TEST.due("state(1)", desk.state(1), 0);
        TEST.due("feed(0, 1)", desk.feed(0, 1), true);
        TEST.due("state(1)", desk.state(1), 1);
        TEST.due("feed(0, 26)", desk.feed(0, 26), true);
        TEST.due("state(1)", desk.state(1), 27);
    }

    /** The same bits, cut otherwise, are the same blocks. */
    private static void feedOrder() {
        TEST.about("2: the highest bit comes first");
        for (int cut = 1; cut <= 25; cut++) {
            RdsDesk desk = new RdsDesk();
            int[] words = {Sender.block(0xC201, Sender.A), Sender.block(0xB7FF, Sender.B)};
            for (int word : words) {
                desk.feed(word >>> cut, 26 - cut);
                desk.feed(word, cut);
            }
            TEST.due("state(0), cut at " + cut, desk.state(0), 1);
            TEST.due("state(9), cut at " + cut, desk.state(9), 2);
        }
    }

    private static void feedTakesTheLowestBits() {
        TEST.about("2: bits above the lowest n don't come");
        RdsDesk desk = new RdsDesk();
        desk.feed(Sender.block(1, Sender.A) | 0xFC000000, 26);
        desk.feed(Sender.block(2, Sender.B) | 0xFC000000, 26);
        TEST.due("state(2)", desk.state(2), 2);
        TEST.due("state(1)", desk.state(1), 52);
    }

    private static void blocks() {
        TEST.about("3: block");
        RdsDesk desk = new RdsDesk();
        TEST.due("block(21672, 0)", desk.block(21672, 0), 22193098);
        TEST.due("block(65535, 3)", desk.block(65535, 3), 67108217);
        TEST.due("block(-1, 3)", desk.block(-1, 3), 67108217);
        TEST.due("block(65536, 4)", desk.block(65536, 4), 848);
        int[] letters = {-1, 5, Integer.MAX_VALUE, Integer.MIN_VALUE};
        for (int letter : letters) {
            TEST.due("block(1, " + letter + ")", desk.block(1, letter), -1);
        }
        for (int letter = 0; letter <= 4; letter++) {
            desk = new RdsDesk();
            for (int information = 0; information < 65536; information += 137) {
                TEST.due("block(" + information + ", " + letter + ")",
                        desk.block(information, letter), Sender.block(information, letter));
            }
        }
    }

    /** The tests lean on it: what Sender ruins is BAD, wherever it stands. */
    private static void ruinedBlocksStayRuined() {
        TEST.about("ruined blocks");
        Sender sender = Sender.synced(7);
        sender.group(Sender.RUINED, Sender.RUINED, Sender.RUINED, Sender.RUINED);
        sender.group(7, Sender.second(1, 0, 0, 0), Sender.RUINED, Sender.RUINED);
        sender.group(7, Sender.second(0, 0, 0, 0), Sender.RUINED, Sender.RUINED);
        TEST.due("state(3)", sender.desk.state(3), 0);
        TEST.due("state(4)", sender.desk.state(4), 8);
    }

    private static void setRefuses() {
        TEST.about("4: set refuses");
        RdsDesk desk = new RdsDesk();
        int[][] wrong = {{-1, 1}, {6, 1}, {0, 0}, {0, 51}, {5, -1}, {6, 51},
                {Integer.MAX_VALUE, 1}, {1, Integer.MIN_VALUE}};
        for (int[] pair : wrong) {
            TEST.due("set(" + pair[0] + ", " + pair[1] + ")", desk.set(pair[0], pair[1]), false);
        }
        for (int limit = 0; limit <= 5; limit++) {
            TEST.due("set(" + limit + ", 1)", desk.set(limit, 1), true);
            TEST.due("set(" + limit + ", 50)", desk.set(limit, 50), true);
        }
        TEST.about("4: what set refuses changes nothing");
        Sender sender = Sender.synced(7);
        sender.desk.set(2, 2);
        sender.desk.set(0, 51);
        sender.desk.set(6, 50);
        sender.words(Sender.block(7, Sender.A) ^ 0b11);
        TEST.due("state(3)", sender.desk.state(3), 1);
        sender.one(Sender.RUINED, Sender.B);
        TEST.due("state(0)", sender.desk.state(0), 1);
        sender.one(Sender.RUINED, Sender.C);
        TEST.due("state(0)", sender.desk.state(0), 0);
    }

    /** A burst of n is put right with LIMIT n and above, and is BAD below. */
    private static void limits() {
        TEST.about("4: LIMIT");
        int[] bursts = {0b1, 0b11, 0b101, 0b1001, 0b10001, 0b100001, 0b111111};
        int[] spans = {1, 2, 3, 4, 5, 6, 6};
        for (int limit = 0; limit <= 5; limit++) {
            for (int i = 0; i < bursts.length; i++) {
                Sender sender = Sender.synced(7);
                sender.desk.set(limit, 50);
                sender.words(Sender.block(7, Sender.A) ^ bursts[i] << 9);
                boolean righted = spans[i] <= limit;
                TEST.due("state(3), burst " + bursts[i] + ", LIMIT " + limit, sender.desk.state(3), righted ? 1 : 0);
                TEST.due("state(4), burst " + bursts[i] + ", LIMIT " + limit, sender.desk.state(4), righted ? 0 : 1);
            }
        }
    }

    /** LIMIT is 5 at first, and a burst may lie anywhere in the block, but not around its ends. */
    private static void limitPlaces() {
        TEST.about("4: where a burst lies");
        for (int up = 0; up <= 25; up++) {
            int[] bursts = {0b1, 0b11, 0b111, 0b1101, 0b10111};
            for (int burst : bursts) {
                int wrong = burst << up;
                if (wrong >>> 26 != 0) {
                    continue;
                }
                Sender sender = Sender.synced(7);
                sender.words(Sender.block(0xA5C3, Sender.A) ^ wrong);
                sender.one(0xB000, Sender.B);
                sender.one(0, Sender.C);
                sender.one(0, Sender.D);
                TEST.due("group(0), wrong " + wrong, sender.desk.group(0), 0xA5C3);
                TEST.due("group(4), wrong " + wrong, sender.desk.group(4), 1);
            }
        }
        Sender sender = Sender.synced(7);
        sender.words(Sender.block(0xA5C3, Sender.A) ^ (1 << 25 | 1));
        TEST.due("state(4), around the ends", sender.desk.state(4), 1);
    }

    private static void lossIsSet() {
        TEST.about("4: LOSS");
        for (int loss = 1; loss <= 50; loss++) {
            Sender sender = Sender.synced(7);
            sender.desk.set(5, loss);
            for (int i = 1; i <= loss; i++) {
                sender.one(Sender.RUINED, (i - 1) % 4);
                TEST.due("state(8), LOSS " + loss + ", BAD ones " + i, sender.desk.state(8), i == loss ? 1 : 0);
            }
        }
        Sender sender = Sender.synced(7);
        for (int i = 1; i <= 30; i++) {
            TEST.due("state(10) at first", sender.desk.state(10), i - 1);
            sender.one(Sender.RUINED, (i - 1) % 4);
        }
        TEST.due("state(8), LOSS at first", sender.desk.state(8), 1);
    }

    private static void forgets() {
        TEST.about("5: ahead of forget");
        Sender sender = Sender.filled(7);
        sender.one(Sender.RUINED, Sender.A);
        sender.words(Sender.block(0, Sender.B) ^ 1);
        sender.desk.feed(1, 7);
        RdsDesk desk = sender.desk;
        TEST.due("state(0)", desk.state(0), 1);
        for (int what = 0; what <= 5; what++) {
            TEST.due("reports(" + what + ") > 0", desk.reports(what) > 0, true);
        }
        for (int what = 0; what <= 9; what++) {
            TEST.due("programme(" + what + ") >= 0", desk.programme(what) >= 0, true);
        }
        for (int what = 0; what <= 11; what++) {
            TEST.due("other(0, " + what + ") >= 0", desk.other(0, what) >= 0, true);
        }
        TEST.due("oda(0, 0)", desk.oda(0, 0), 19415);
        TEST.due("tag(0)", desk.tag(0), 1);
        TEST.about("5: forget");
        desk.forget();
        asNew(TEST, desk);
        TEST.about("5: what was under way is forgotten too");
        sender.typed(7, 0, 0, 9 << 8 | 9, 0x4142);
        TEST.due("marks(0)", desk.marks(0), 1);
        TEST.due("state(2)", desk.state(2), 4);
        sender.typed(7, 0, 0, 9 << 8 | 225, 0x4142);
        TEST.due("frequency(0)", desk.frequency(0), -1);
        TEST.due("reports(3)", desk.reports(3), 0);
        TEST.due("state(7)", desk.state(7), 1);
        TEST.due("other(0, 0)", desk.other(0, 0), -1);
        sender.typed(7, 28, 0, 0, 8);
        TEST.due("other(0, 5)", desk.other(0, 5), -1);
        TEST.due("other(0, 11)", desk.other(0, 11), 0);
        TEST.due("otherLetter(0, 0)", desk.otherLetter(0, 0), -1);
        forgottenBits();
        forgottenCounts();
    }

    private static void forgottenCounts() {
        TEST.about("5: counts are forgotten");
        Sender sender = Sender.synced(7);
        sender.desk.set(5, 2);
        sender.words(Sender.block(7, Sender.A) ^ 1);
        sender.one(Sender.RUINED, Sender.B);
        TEST.due("state(10)", sender.desk.state(10), 1);
        sender.one(Sender.RUINED, Sender.C);
        for (int what = 1; what <= 8; what++) {
            TEST.due("state(" + what + ") > 0", sender.desk.state(what) > 0, true);
        }
        sender.desk.forget();
        asNew(TEST, sender.desk);
    }

    private static void forgottenBits() {
        TEST.about("5: bits ahead of forget don't count in the new SEARCH");
        Sender sender = new Sender();
        sender.one(7, Sender.A);
        sender.desk.forget();
        sender.one(0, Sender.B);
        TEST.due("state(0)", sender.desk.state(0), 0);
        sender.one(0, Sender.C);
        TEST.due("state(0)", sender.desk.state(0), 1);
        sender.one(0, Sender.D);
        TEST.due("group(4)", sender.desk.group(4), 3);
    }

    private static void forgetKeepsLimitAndLoss() {
        TEST.about("5: forget keeps LIMIT and LOSS");
        Sender sender = new Sender();
        sender.desk.set(1, 2);
        sender.desk.forget();
        sender.typed(7, 22, 0, 0, 0);
        sender.words(Sender.block(7, Sender.A) ^ 1);
        sender.words(Sender.block(7, Sender.B) ^ 3);
        TEST.due("state(3)", sender.desk.state(3), 1);
        TEST.due("state(4)", sender.desk.state(4), 1);
        sender.one(Sender.RUINED, Sender.C);
        TEST.due("state(8)", sender.desk.state(8), 1);
    }
}
