/** Edges of the Terms BLOCKS and BURST, and of promises 1 to 5. */
final class BlockEdges {
    private static final int R = Sender.RUINED;
    private static final int PI = 7;
    private static final int MIN = Integer.MIN_VALUE;
    private static final int MAX = Integer.MAX_VALUE;

    private BlockEdges() {
    }

    static void run(Edges t) {
        blockHasTwentySixBits(t);
        restOfThePolynomial(t);
        checkOfEachLetter(t);
        goodWithALetter(t);
        groupHasFourBlocks(t);
        burstLiesInTheBlock(t);
        burstOfLimitAtMost(t);
        limitsEdges(t);
        constants(t);
        newObject(t);
        feedTakesTheLowestBits(t);
        feedRefuses(t);
        blockTakesTheLowestSixteen(t);
        blockRefuses(t);
        setTakes(t);
        setRefuses(t);
        forgets(t);
        forgetsOnANewDesk(t);
        forgetsAndBeginsAnew(t);
        forgetKeeps(t);
    }

    private static void block(Edges t, int information, int letter, int want) {
        t.due("block(" + information + ", " + letter + ")", new RdsDesk().block(information, letter), want);
    }

    private static void blockHasTwentySixBits(Edges t) {
        t.edge(3, "A BLOCK has 26 bits: 16 of INFORMATION, the highest first, and a CHECK of ten.");
        for (int letter = 0; letter <= 4; letter++) {
            int[] edges = {0, 1, 0x7FFF, 0x8000, 0xFFFF};
            for (int information : edges) {
                int word = new RdsDesk().block(information, letter);
                t.due("block(" + information + ", " + letter + ") >>> 10", word >>> 10, information);
            }
        }
    }

    private static void restOfThePolynomial(Edges t) {
        t.edge(3, "REST(v) of a polynomial over bits: what is left of v by x^10 + x^8 + x^7 + x^5 + x^4 + x^3 + 1.");
        // The lowest one whose division takes a step, and those that leave nothing.
        block(t, 1, 0, 1 << 10 | (0b0110111001 ^ 252));
        block(t, 0b10110111001, 0, 0b10110111001 << 10 | 252);
        block(t, 0b10110111001 << 5, 4, 0b10110111001 << 15 | 848);
        int left = 1;
        for (int power = 1; power <= 25; power++) {
            left = left << 1 ^ (left >> 9) * 0b10110111001;
            if (power >= 10) {
                block(t, 1 << power - 10, 1, 1 << power | (left ^ 408));
            }
        }
    }

    private static void checkOfEachLetter(Edges t) {
        t.edge(3, "The CHECK is REST(INFORMATION * x^10), exclusive or the OFFSET of its LETTER: "
                + "0 A 252, 1 B 408, 2 C 360, 3 D 436, 4 C' 848.");
        int[] offsets = {252, 408, 360, 436, 848};
        for (int letter = 0; letter <= 4; letter++) {
            block(t, 0, letter, offsets[letter]);
            block(t, 0xFFFF, letter, new RdsDesk().block(0xFFFF, 0) ^ 252 ^ offsets[letter]);
        }
        block(t, 0xFFFF, 3, 67108217);
    }

    /** Just one wrong bit, the highest and the lowest one too, makes it another matter. */
    private static void goodWithALetter(Edges t) {
        t.edge(6, "26 bits are GOOD with a LETTER, if they are such a BLOCK.");
        for (int wrong = -1; wrong <= 25; wrong++) {
            Sender sender = new Sender();
            sender.one(PI, Sender.A);
            sender.words(Sender.block(0x2000, Sender.B) ^ (wrong < 0 ? 0 : 1 << wrong));
            t.state(sender, 0, wrong < 0 ? 1 : 0);
        }
    }

    private static void groupHasFourBlocks(Edges t) {
        t.edge(6, "A GROUP has four BLOCKS, their PLACES 0 .. 3: A, B, C or C', D.");
        Sender sender = Sender.synced(PI);
        sender.desk.set(0, 50);
        int[] letters = {Sender.A, Sender.B, Sender.C, Sender.D, Sender.A, Sender.B, Sender.C_PRIME, Sender.D};
        for (int i = 0; i < letters.length; i++) {
            t.state(sender, 9, i % 4);
            t.state(sender, 5, 1 + i / 4);
            sender.one(0, letters[i]);
            t.state(sender, 2, 5 + i);
        }
        t.state(sender, 9, 0);
        t.state(sender, 5, 3);
    }

    /** Every burst that lies in the block, those at its two ends too; one around them is none. */
    private static void burstLiesInTheBlock(Edges t) {
        t.edge(7, "A BURST of n is an exclusive or of a BLOCK with bits that lie within n that follow one another, "
                + "the first and the last of them 1.");
        for (int up = 0; up <= 25; up++) {
            for (int burst = 1; burst < 32 && burst << up < 1 << 26; burst += 2) {
                Sender sender = Sender.synced(PI);
                sender.words(Sender.block(0xA5C3, Sender.A) ^ burst << up);
                sender.one(0xB000, Sender.B);
                sender.one(0, Sender.C);
                sender.one(0, Sender.D);
                t.due("group(0), burst " + burst + " << " + up, sender.desk.group(0), 0xA5C3);
                t.due("group(4), burst " + burst + " << " + up, sender.desk.group(4), 1);
            }
        }
        // Bits that lie within 2, 4 and 5 only if the lowest one were followed by the highest one.
        int[] around = {1 << 25 | 1, 3 << 24 | 3, 15 << 22 | 1, 1 << 25 | 8};
        for (int wrong : around) {
            Sender sender = Sender.synced(PI);
            sender.words(Sender.block(0xA5C3, Sender.A) ^ wrong);
            t.state(sender, 3, 0);
            t.state(sender, 4, 1);
        }
    }

    private static Sender sentWrong(int limit, int wrong) {
        Sender sender = Sender.synced(PI);
        if (limit >= 0) {
            sender.desk.set(limit, 50);
        }
        sender.words(Sender.block(PI, Sender.A) ^ wrong);
        return sender;
    }

    private static void burstOfLimitAtMost(Edges t) {
        t.edge(4, "26 bits can be CORRECTED to a LETTER, if just one BURST of LIMIT (at most) makes them GOOD with it");
        for (int limit = 1; limit <= 5; limit++) {
            for (int n = 1; n <= 6; n++) {
                int[] bursts = {1 << n - 1 | 1, (1 << n) - 1};
                for (int burst : bursts) {
                    Sender sender = sentWrong(limit, burst << 11);
                    t.state(sender, 3, n <= limit ? 1 : 0);
                    t.state(sender, 4, n <= limit ? 0 : 1);
                }
            }
        }
    }

    private static void limitsEdges(Edges t) {
        t.edge(4, "(LIMIT 0 .. 5; 5 at first; 0: none are).");
        t.state(sentWrong(-1, 0b10001), 3, 1);
        t.state(sentWrong(-1, 0b11111 << 21), 3, 1);
        t.state(sentWrong(-1, 0b100001), 4, 1);
        t.state(sentWrong(5, 0b10001), 3, 1);
        for (int wrong = 0; wrong < 26; wrong++) {
            Sender sender = sentWrong(0, 1 << wrong);
            t.state(sender, 3, 0);
            t.state(sender, 4, 1);
        }
        t.state(sentWrong(0, 0), 2, 5);
    }

    private static void constants(Edges t) {
        t.edge(1, "The constants: `NONE = -1`: None.");
        t.due("NONE", declaredNone(), -1);
    }

    /** As the class has it now: the compiler writes a constant's value into the classes that use it. */
    private static int declaredNone() {
        try {
            return RdsDesk.class.getField("NONE").getInt(null);
        } catch (ReflectiveOperationException thrown) {
            return 0;
        }
    }

    private static void newObject(Edges t) {
        t.edge(1, "It SEARCHES, no bits have come; nothing is known.");
        BlocksTest.asNew(t, new RdsDesk());
        Sender sender = new Sender();
        sender.one(PI, Sender.A);
        t.state(sender, 0, 0);
        sender.one(0, Sender.B);
        t.state(sender, 0, 1);
    }

    private static void feedTakesTheLowestBits(Edges t) {
        t.edge(2, "The lowest n bits come, the highest of them first: true;");
        int[] words = {Sender.block(0x8001, Sender.A), Sender.block(0x7FFE, Sender.B)};
        for (int n = 1; n <= 26; n++) {
            Sender sender = new Sender();
            for (int word : words) {
                for (int left = 26; left > 0; left -= n) {
                    int now = Math.min(n, left);
                    // The bits above the lowest ones are all 1, then all 0: neither comes.
                    int above = left == 26 ? -1 << now : 0;
                    t.due("feed of " + now, sender.desk.feed(word >>> left - now & (1 << now) - 1 | above, now), true);
                }
            }
            t.state(sender, 1, 52);
            t.state(sender, 2, 2);
            t.state(sender, 9, 2);
        }
        RdsDesk desk = new RdsDesk();
        int[] any = {MIN, MAX, -1, 0};
        for (int bits : any) {
            t.due("feed(" + bits + ", 1)", desk.feed(bits, 1), true);
            t.due("feed(" + bits + ", 26)", desk.feed(bits, 26), true);
        }
        t.due("state(1)", desk.state(1), 4 * 27);
    }

    private static void feedRefuses(Edges t) {
        t.edge(2, "false, and none comes, if n is not 1 .. 26.");
        int[] wrong = {0, -1, -26, 27, 28, 32, 33, 58, MAX, MIN, MIN + 1};
        RdsDesk desk = new RdsDesk();
        for (int n : wrong) {
            t.due("feed(-1, " + n + ")", desk.feed(-1, n), false);
            t.due("state(1)", desk.state(1), 0);
        }
        Sender sender = Sender.synced(PI);
        int word = Sender.block(PI, Sender.A);
        sender.desk.feed(word >>> 13, 13);
        for (int n : wrong) {
            t.due("feed(0, " + n + ")", sender.desk.feed(0, n), false);
        }
        t.state(sender, 9, 0);
        sender.desk.feed(word, 13);
        t.state(sender, 2, 5);
        t.state(sender, 1, 5 * 26);
    }

    private static void blockTakesTheLowestSixteen(Edges t) {
        t.edge(3, "The BLOCK of the lowest 16 bits of information and a LETTER 0 .. 4;");
        for (int letter = 0; letter <= 4; letter++) {
            block(t, 65536, letter, Sender.block(0, letter));
            block(t, 65535, letter, Sender.block(65535, letter));
            block(t, -1, letter, Sender.block(65535, letter));
            block(t, -65536, letter, Sender.block(0, letter));
            block(t, MIN, letter, Sender.block(0, letter));
            block(t, MAX, letter, Sender.block(65535, letter));
        }
    }

    private static void blockRefuses(Edges t) {
        t.edge(3, "NONE for another LETTER.");
        int[] wrong = {-1, 5, -2, 6, MIN, MAX};
        for (int letter : wrong) {
            block(t, 0, letter, -1);
            block(t, 65535, letter, -1);
        }
    }

    private static void setTakes(Edges t) {
        t.edge(4, "LIMIT, LOSS: true;");
        RdsDesk desk = new RdsDesk();
        for (int limit = 0; limit <= 5; limit++) {
            for (int loss = 1; loss <= 50; loss += 7) {
                t.due("set(" + limit + ", " + loss + ")", desk.set(limit, loss), true);
            }
        }
        Sender sender = Sender.synced(PI);
        sender.desk.set(5, 50);
        sender.desk.set(1, 1);
        sender.words(Sender.block(PI, Sender.A) ^ 1);
        t.state(sender, 3, 1);
        sender.words(Sender.block(PI, Sender.B) ^ 3);
        t.state(sender, 4, 1);
        t.state(sender, 8, 1);
    }

    private static void setRefuses(Edges t) {
        t.edge(4, "false, and nothing happens, if one isn't such.");
        int[][] wrong = {{-1, 30}, {6, 30}, {-1, 50}, {6, 1}, {0, 0}, {0, 51}, {5, -1}, {1, 0}, {1, 51}, {-1, 0},
            {6, 51}, {MAX, 1}, {MIN, 1}, {0, MAX}, {0, MIN}};
        for (int[] pair : wrong) {
            // Behind it a burst of 2 must still be put right, one of 3 not, and LOST still be at two BAD ones.
            Sender sender = Sender.synced(PI);
            t.due("set(2, 2)", sender.desk.set(2, 2), true);
            t.due("set(" + pair[0] + ", " + pair[1] + ")", sender.desk.set(pair[0], pair[1]), false);
            sender.words(Sender.block(PI, Sender.A) ^ 3);
            t.state(sender, 3, 1);
            sender.words(Sender.block(PI, Sender.B) ^ 7);
            t.state(sender, 4, 1);
            t.state(sender, 8, 0);
            sender.one(R, Sender.C);
            t.state(sender, 8, 1);
        }
    }

    private static void forgets(Edges t) {
        t.edge(5, "All is as at first,");
        Sender sender = Sender.filled(PI);
        sender.one(R, Sender.A);
        sender.words(Sender.block(0, Sender.B) ^ 1);
        sender.desk.feed(1, 25);
        sender.desk.forget();
        BlocksTest.asNew(t, sender.desk);
        // No bit that came ahead of it is left in the SEARCH, and no waiting one of the SYNC.
        sender.one(0, Sender.C);
        t.state(sender, 0, 0);
        sender.one(0, Sender.D);
        t.state(sender, 0, 1);
        t.state(sender, 7, 1);
        t.group(sender, -1, -1, 0, 0, 3, 3, 0, 0, -1);
        // Nor is a list, a name or a byte of long waves under way, nor an ODA or an OTHER kept.
        sender.typed(PI + 1, 0, 1, 9 << 8 | 10, 0x4142);
        sender.typed(PI + 1, 0, 1, 9 << 8 | 10, 0x4142);
        sender.typed(PI + 1, 22, 0, 0x1234, 0x5678);
        sender.typed(PI + 1, 28, 0, 0x4142, 8);
        t.list(sender, 0);
        t.marks(sender, 0, 2);
        t.tags(sender, 0);
        t.other(sender, 0, 8, 0, -1, -1, -1, -1, -1, -1, -1, -1, -1, 0);
    }

    private static void forgetsOnANewDesk(Edges t) {
        t.edge(5, "All is as at first,");
        RdsDesk desk = new RdsDesk();
        desk.forget();
        BlocksTest.asNew(t, desk);
        desk.forget();
        desk.feed(Sender.block(PI, Sender.A), 26);
        desk.forget();
        desk.feed(Sender.block(0, Sender.B), 26);
        t.due("state(0)", desk.state(0), 0);
        t.due("state(1)", desk.state(1), 26);
    }

    /** Behind it all comes as it came the first time, and what was counted counts from 0 on. */
    private static void forgetsAndBeginsAnew(Edges t) {
        t.edge(5, "All is as at first,");
        Sender sender = Sender.filled(PI);
        sender.desk.forget();
        sender.typed(PI, 22, 0, 0, 0);
        sender.fill(PI);
        t.alike(sender, Sender.filled(PI));
        sender = Sender.synced(PI);
        sender.desk.set(5, 2);
        sender.words(Sender.block(PI, Sender.A) ^ 1);
        sender.one(R, Sender.B);
        sender.one(R, Sender.C);
        for (int what = 1; what <= 8; what++) {
            t.due("state(" + what + ") > 0", sender.desk.state(what) > 0, true);
        }
        sender.desk.forget();
        BlocksTest.asNew(t, sender.desk);
    }

    private static void forgetKeeps(Edges t) {
        t.edge(5, "but LIMIT and LOSS.");
        Sender sender = new Sender();
        sender.desk.set(1, 2);
        sender.typed(PI, 22, 0, 0, 0);
        sender.desk.forget();
        sender.typed(PI, 22, 0, 0, 0);
        sender.words(Sender.block(PI, Sender.A) ^ 1);
        sender.words(Sender.block(PI, Sender.B) ^ 3);
        t.state(sender, 3, 1);
        t.state(sender, 4, 1);
        t.state(sender, 8, 0);
        sender.one(R, Sender.C);
        t.state(sender, 8, 1);
    }
}
