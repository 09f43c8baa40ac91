/** Edges of the Terms under 2. GROUPS, and of promise 8. */
final class GroupEdges {
    private static final int R = Sender.RUINED;
    private static final int PI = 7;
    private static final int[] WITH_SWITCHES = {0, 1, 31};

    private GroupEdges() {
    }

    static void run(Edges t) {
        lowestBit(t);
        identity(t);
        identityOfBlockTwo(t);
        anotherIdentity(t);
        sameIdentity(t);
        firstIdentity(t);
        anotherIdentityBeginsAnew(t);
        aheadOfWhatFollows(t);
        withoutBlockOne(t);
        blockOne(t);
        unknownBlocksAreLeftOut(t);
        twoBytes(t);
        switches(t);
        decoderBits(t);
        nameBytes(t);
        frequencyBytes(t);
        switchesOfFifteenB(t);
        item(t);
        slowLabels(t);
        textBytes(t);
        kindBytes(t);
        odaOfAThreeA(t);
        anotherOne(t);
        variants(t);
        fourteenB(t);
        allOthers(t);
        programmeWhats(t);
        decoderBitsThatHaveNotCome(t);
        programmeHasNotCome(t);
    }

    private static void lowestBit(Edges t) {
        t.edge(8, "b0 .. b15 are a BLOCK's INFORMATION bits, b0 the lowest.");
        for (int bit = 0; bit < 16; bit++) {
            Sender sender = Sender.synced(PI);
            sender.typed(PI, 2, 0, 0x1000, 1 << bit);
            t.programme(sender, 6, 1 << bit);
        }
    }

    private static void identity(Edges t) {
        t.edge(8, "PI is what BLOCK 0 has;");
        int[] edges = {0, 1, 0x8000, 0xFFFF};
        for (int pi : edges) {
            t.programme(Sender.synced(pi), 0, pi);
            // A BLOCK 2 with C' has another one: BLOCK 0 goes first.
            Sender sender = Sender.synced(pi);
            sender.group(pi, 0x0800, 0x1234, 0);
            t.programme(sender, 0, pi);
        }
        Sender sender = Sender.synced(PI);
        sender.words(Sender.block(0xFFFF, Sender.A) ^ 0b11111 << 21);
        sender.one(0, Sender.B);
        sender.one(0, Sender.C);
        sender.one(0, Sender.D);
        t.programme(sender, 0, 0xFFFF);
    }

    private static void blocks(Sender sender, int a, int b, int c, int letter) {
        sender.one(a, Sender.A);
        sender.one(b, Sender.B);
        sender.one(c, letter);
        sender.one(0, Sender.D);
    }

    private static void identityOfBlockTwo(Edges t) {
        t.edge(8, "if that isn't known, what BLOCK 2 has, if that is known and GOOD with C' (or RIGHTED to it).");
        int[] seconds = {0x0000, 0x0800, R};
        for (int b : seconds) {
            Sender sender = Sender.synced(PI);
            blocks(sender, R, b, 0, Sender.C_PRIME);
            t.programme(sender, 0, 0);
            sender = Sender.synced(PI);
            blocks(sender, R, b, 0xFFFF, Sender.C);
            t.programme(sender, 0, PI);
            sender = Sender.synced(PI);
            blocks(sender, R, b, R, Sender.C_PRIME);
            t.programme(sender, 0, PI);
        }
        for (int version = 0; version <= 1; version++) {
            Sender sender = Sender.synced(PI);
            sender.one(R, Sender.A);
            sender.one(version << 11, Sender.B);
            sender.words(Sender.block(0xFFFF, version == 1 ? Sender.C_PRIME : Sender.C) ^ 1 << 16);
            sender.one(0, Sender.D);
            t.due("group(6)", sender.desk.group(6), 1);
            t.programme(sender, 0, version == 1 ? 0xFFFF : PI);
        }
        // A MISSING BLOCK 0 isn't known either.
        Sender sender = new Sender();
        sender.one(5, Sender.C_PRIME);
        sender.one(0, Sender.D);
        t.programme(sender, 0, 5);
        sender = new Sender();
        sender.one(5, Sender.C);
        sender.one(0, Sender.D);
        t.programme(sender, 0, -1);
        // The C' of the GROUP before it says nothing of this one's C.
        sender = Sender.synced(PI);
        blocks(sender, PI, 0x0800, 8, Sender.C_PRIME);
        blocks(sender, R, 0x0000, 9, Sender.C);
        t.programme(sender, 0, PI);
    }

    private static void nothingOfTwoAndThree(Edges t, Sender sender) {
        for (int what = 1; what <= 9; what++) {
            t.programme(sender, what, -1);
        }
        for (int what = 0; what <= 5; what++) {
            t.reports(sender, what, 0);
        }
        for (int what = 0; what <= 4; what++) {
            t.letters(sender, what, "");
        }
        for (int what = 0; what <= 2; what++) {
            t.marks(sender, what, 0);
        }
        t.list(sender, 0);
        t.time(sender, -1, -1, -1, -1, -1, -1, -1, -1, -1, -1, -1, -1, -1);
        t.oda(sender, 0);
        t.tags(sender, 0);
        t.other(sender, 0);
        t.otherName(sender, 0, "");
    }

    private static void anotherIdentity(Edges t) {
        t.edge(8, "If it is another one than the PI of before (that there is one), all of 2 and 3 is as at first "
                + "ahead of what follows.");
        Sender sender = Sender.filled(PI);
        int taken = sender.desk.state(5);
        sender.group(PI ^ 0x8000, R, 0, 0);
        t.programme(sender, 0, PI ^ 0x8000);
        nothingOfTwoAndThree(t, sender);
        t.state(sender, 0, 1);
        t.state(sender, 5, taken + 1);
        t.state(sender, 7, 1);
        // What was under way is gone too: a list, the byte behind a 250, the PIECES.
        sender.typed(PI ^ 0x8000, 0, 1, 9 << 8 | 10, 0x4142);
        sender.typed(PI ^ 0x8000, 0, 1, 9 << 8 | 10, 0x4142);
        sender.typed(PI ^ 0x8000, 22, 0, 0x1234, 0x5678);
        t.list(sender, 0);
        t.marks(sender, 0, 2);
        t.tags(sender, 0);
        // The PI of a BLOCK 2 does it as well.
        sender = Sender.filled(PI);
        sender.one(R, Sender.A);
        sender.one(R, Sender.B);
        sender.one(PI ^ 1, Sender.C_PRIME);
        sender.one(0, Sender.D);
        t.programme(sender, 0, PI ^ 1);
        nothingOfTwoAndThree(t, sender);
    }

    private static void anotherIdentityBeginsAnew(Edges t) {
        t.edge(8, "If it is another one than the PI of before (that there is one), all of 2 and 3 is as at first "
                + "ahead of what follows.");
        Sender sender = Sender.filled(PI);
        sender.typed(PI + 1, 22, 0, 0, 0);
        sender.fill(PI + 1);
        t.alike(sender, Sender.filled(PI + 1));
    }

    /** The same PI, from BLOCK 0, from BLOCK 2, or none at all: nothing goes. */
    private static void sameIdentity(Edges t) {
        t.edge(8, "If it is another one than the PI of before (that there is one), all of 2 and 3 is as at first "
                + "ahead of what follows.");
        for (int how = 0; how < 3; how++) {
            Sender sender = Sender.filled(PI);
            int[] before = new int[6];
            for (int what = 0; what < 6; what++) {
                before[what] = sender.desk.reports(what);
            }
            int marks = sender.desk.marks(0);
            blocks(sender, how == 0 ? PI : R, R, how == 2 ? PI + 1 : PI, how == 2 ? Sender.C : Sender.C_PRIME);
            t.programme(sender, 0, PI);
            t.marks(sender, 0, marks);
            for (int what = 0; what < 6; what++) {
                t.reports(sender, what, before[what]);
            }
            t.oda(sender, 0, 19415, 22, 0xABCD);
        }
    }

    private static void firstIdentity(Edges t) {
        t.edge(8, "(that there is one)");
        int[] identities = {0, PI, 0xFFFF};
        for (int pi : identities) {
            Sender sender = new Sender();
            sender.one(Sender.second(2, 1, 9, 0), Sender.B);
            sender.one(0x00E1, Sender.C);
            sender.one(0x1234, Sender.D);
            t.programme(sender, 0, -1);
            t.programme(sender, 6, 0x1234);
            sender.group(pi, R, 0, 0);
            t.programme(sender, 0, pi);
            t.programme(sender, 2, 9);
            t.programme(sender, 6, 0x1234);
            t.programme(sender, 7, 0xE1);
        }
    }

    private static void aheadOfWhatFollows(Edges t) {
        t.edge(8, "ahead of what follows.");
        Sender sender = Sender.filled(PI);
        sender.typed(PI + 1, 0, 0b11101, 225 << 8 | 9, 0x4142);
        int[] wants = {PI + 1, 1, 31, 1, 1, 4, -1};
        for (int what = 0; what < wants.length; what++) {
            t.programme(sender, what, wants[what]);
        }
        t.marks(sender, 0, 2);
        t.list(sender, 1, 88400);
        t.reports(sender, 0, 0);
    }

    private static void withoutBlockOne(Edges t) {
        t.edge(8, "Of a GROUP whose BLOCK 1 is not known nothing more is taken.");
        Sender sender = Sender.synced(PI);
        sender.typed(PI, 0, 0, 226 << 8 | 9, 0x4142);
        int marks = sender.desk.marks(0);
        sender.group(PI, R, 9 << 8 | 9, 0x4344);
        t.marks(sender, 0, marks);
        t.list(sender, 0);
        t.programme(sender, 1, 1);
        t.programme(sender, 2, 31);
        // But the PI is.
        sender.group(PI + 1, R, 9 << 8 | 9, 0x4344);
        t.programme(sender, 0, PI + 1);
        t.programme(sender, 1, -1);
        t.programme(sender, 2, -1);
        t.marks(sender, 0, 0);
        // Nor of one whose BLOCK 1 is MISSING.
        sender = new Sender();
        sender.one(225 << 8 | 9, Sender.C);
        sender.one(0x4142, Sender.D);
        t.programme(sender, 1, -1);
        t.programme(sender, 2, -1);
        t.list(sender, 0);
        t.marks(sender, 0, 0);
    }

    private static void blockOne(Edges t) {
        t.edge(8, "BLOCK 1: the TYPE b15 .. b12, the version b11 (0 A, 1 B), TP b10, PTY b9 .. b5.");
        for (int type = 0; type < 32; type++) {
            Sender sender = Sender.synced(PI);
            int[][] rows = {{1, 0, 0}, {0, 31, 0}, {0, 0, 31}, {1, 16, 15}, {0, 1, 16}};
            for (int[] row : rows) {
                sender.group(PI, Sender.second(type, row[0], row[1], row[2]), R, R);
                t.due("group(8)", sender.desk.group(8), type);
                t.programme(sender, 1, row[0]);
                t.programme(sender, 2, row[1]);
            }
        }
    }

    /** For each TYPE and version that tells something: what comes of it without C, without D, without both. */
    private static void unknownBlocksAreLeftOut(Edges t) {
        t.edge(8, "What hangs on a BLOCK that isn't known is left out.");
        int[] types = {0, 1, 2, 3, 4, 5, 6, 8, 20, 28, 29, 31};
        for (int type : types) {
            for (int known = 0; known < 4; known++) {
                boolean c = (known & 1) != 0;
                boolean d = (known & 2) != 0;
                Sender sender = Sender.synced(PI);
                sender.group(PI, Sender.second(type, 0, 0, 0b11110), c ? 0x00E1 : R, d ? 0x0005 : R);
                leftOut(t, sender, type, c, d);
            }
        }
        // Nor does a variant of an OTHER come of an unknown C.
        for (int v = 0; v < 16; v++) {
            Sender sender = Sender.synced(PI);
            sender.typed(PI, 28, v, R, 8);
            t.other(sender, 0, 8, 0, -1, -1, -1, -1, -1, -1, -1, -1, -1, 0);
            for (int piece = 0; piece < 4; piece++) {
                t.due("other(0, 11)", sender.desk.other(0, 11), 0);
                sender.typed(PI, 28, piece, R, 8);
            }
            t.due("other(0, 11)", sender.desk.other(0, 11), 0);
        }
        // A list that is under way has nothing of an unknown C.
        Sender sender = Sender.synced(PI);
        sender.typed(PI, 0, 0, 226 << 8 | 1, 0);
        sender.typed(PI, 0, 0, R, 0);
        t.list(sender, 0);
        sender.typed(PI, 0, 0, 2 << 8 | 3, R);
        t.list(sender, 1, 87600, 87700);
    }

    private static void leftOut(Edges t, Sender sender, int type, boolean c, boolean d) {
        boolean hasSwitches = type <= 1 || type == 31;
        t.programme(sender, 1, 0);
        t.programme(sender, 2, 0);
        t.programme(sender, 3, hasSwitches ? 1 : -1);
        t.programme(sender, 4, hasSwitches ? 1 : -1);
        t.programme(sender, 5, hasSwitches ? 2 : -1);
        t.programme(sender, 6, (type == 2 || type == 3) && d ? 5 : -1);
        t.programme(sender, 7, type == 2 && c ? 0xE1 : -1);
        t.programme(sender, 8, -1);
        t.programme(sender, 9, -1);
        t.marks(sender, 0, type <= 1 && d ? 4 : 0);
        t.marks(sender, 1, type == 4 && c && d || type == 5 && d ? 1 << 14 : 0);
        t.marks(sender, 2, type == 20 && c && d ? 1 : 0);
        t.due("oda(0, 0)", sender.desk.oda(0, 0), type == 6 && c && d ? 5 : -1);
        t.reports(sender, 4, type == 8 && c && d ? 1 : 0);
        boolean isOther = (type == 28 || type == 29) && d;
        t.due("other(0, 0)", sender.desk.other(0, 0), isOther ? 5 : -1);
        t.due("other(0, 1)", sender.desk.other(0, 1), isOther ? 1 : -1);
        t.due("other(0, 3)", sender.desk.other(0, 3), isOther && type == 29 ? 1 : -1);
        t.due("other(0, 4)", sender.desk.other(0, 4), isOther && type == 28 && c ? 0xE1 : -1);
        // Of the AF bytes 0 and 225 the second one begins a list of one: the next 0A fills it.
        sender.typed(PI, 0, 0, 9 << 8 | 205, R);
        t.reports(sender, 3, type == 0 && c ? 1 : 0);
    }

    private static void twoBytes(Edges t) {
        t.edge(10, "(C is BLOCK 2, D BLOCK 3; two bytes of one: b15 .. b8, then b7 .. b0.)");
        Sender sender = Sender.synced(PI);
        for (int s = 0; s < 4; s++) {
            sender.typed(PI, 0, s, 0xE1CD, 0xFF00);
        }
        t.letters(sender, 0, "\u00ff\u0000".repeat(4));
        sender.typed(PI, 4, 0, 0x0180, 0x7FFE);
        sender.typed(PI, 4, 1, 0x0D00, 0);
        t.letters(sender, 1, "\u0001\u0080\u007f\u00fe");
        sender = Sender.synced(PI);
        sender.typed(PI, 0, 0, 225 << 8 | 9, 0x4142);
        t.list(sender, 1, 88400);
        sender = Sender.synced(PI);
        sender.typed(PI, 0, 0, 9 << 8 | 225, 0x4142);
        t.list(sender, 0);
    }

    private static void switches(Edges t) {
        t.edge(8, "0A, 0B: TA b4, MS b3,");
        for (int type = 0; type <= 1; type++) {
            for (int five = 0; five < 32; five++) {
                Sender sender = Sender.synced(PI);
                sender.typed(PI, type, five, PI, R);
                t.programme(sender, 3, five >> 4);
                t.programme(sender, 4, five >> 3 & 1);
                sender.typed(PI, type, five ^ 24, PI, R);
                t.programme(sender, 3, five >> 4 ^ 1);
                t.programme(sender, 4, five >> 3 & 1 ^ 1);
            }
        }
    }

    private static void decoderBits(Edges t) {
        t.edge(8, "and b2 is DI's bit 3 - s, s being b1 b0 (BLOCK 1).");
        for (int type : WITH_SWITCHES) {
            for (int s = 0; s < 4; s++) {
                Sender sender = Sender.synced(PI);
                sender.typed(PI, type, 4 | s, PI, R);
                t.programme(sender, 5, 1 << 3 - s);
                for (int other = 0; other < 4; other++) {
                    sender.typed(PI, type, 4 | other, PI, R);
                }
                t.programme(sender, 5, 15);
                sender.typed(PI, type, s, PI, R);
                t.programme(sender, 5, 15 - (1 << 3 - s));
            }
        }
    }

    private static void nameBytes(Edges t) {
        t.edge(11, "D: bytes 2 s, 2 s + 1 of the NAME'S DRAFT.");
        for (int type = 0; type <= 1; type++) {
            Sender sender = Sender.synced(PI);
            for (int s = 3; s >= 0; s--) {
                sender.typed(PI, type, 28 | s, 0xCDCD, 0x4142 + 0x0202 * s);
                t.marks(sender, 0, s == 0 ? 0 : 15 & -1 << s);
            }
            t.letters(sender, 0, "ABCDEFGH");
        }
    }

    private static void frequencyBytes(Edges t) {
        t.edge(12, "0A, C: two AF bytes (3).");
        Sender sender = Sender.synced(PI);
        sender.typed(PI, 1, 0, 225 << 8 | 9, 0x4142);
        sender.typed(PI, 31, 0, 225 << 8 | 9, 0x4142);
        t.list(sender, 0);
        sender.typed(PI, 0, 0, 225 << 8 | 9, 0x4142);
        t.list(sender, 1, 88400);
    }

    private static void switchesOfFifteenB(Edges t) {
        t.edge(8, "15B: TA, MS and DI likewise.");
        Sender sender = Sender.synced(PI);
        sender.typed(PI, 30, 31, 225 << 8 | 9, 0x4142);
        t.programme(sender, 3, -1);
        t.programme(sender, 4, -1);
        t.programme(sender, 5, -1);
        for (int five = 0; five < 32; five++) {
            sender = Sender.synced(PI);
            sender.typed(PI, 31, five, 225 << 8 | 9, 0x4142);
            t.programme(sender, 3, five >> 4);
            t.programme(sender, 4, five >> 3 & 1);
            t.programme(sender, 5, (five >> 2 & 1) << 3 - (five & 3));
            t.marks(sender, 0, 0);
        }
    }

    private static void item(Edges t) {
        t.edge(8, "1A, 1B: D: the PIN.");
        int[] edges = {0, 1, 0x8000, 0xFFFF};
        for (int type = 2; type <= 3; type++) {
            for (int pin : edges) {
                Sender sender = Sender.synced(PI);
                sender.typed(PI, type, 31, PI, pin);
                t.programme(sender, 6, pin);
            }
        }
    }

    private static void slowLabels(Edges t) {
        t.edge(8, "1A, C: b14 .. b12 tell: 0: ECC is b7 .. b0; 3: the LANGUAGE is b7 .. b0; 7: the WARNING is b11 .. b0.");
        int[] parts = {0x000, 0x001, 0x0FF, 0x100, 0xF00, 0xFFF};
        for (int high = 0; high <= 1; high++) {
            for (int tells = 0; tells < 8; tells++) {
                for (int part : parts) {
                    Sender sender = Sender.synced(PI);
                    sender.typed(PI, 2, 0, high << 15 | tells << 12 | part, R);
                    t.programme(sender, 7, tells == 0 ? part & 255 : -1);
                    t.programme(sender, 8, tells == 3 ? part & 255 : -1);
                    t.programme(sender, 9, tells == 7 ? part : -1);
                }
            }
        }
        Sender sender = Sender.synced(PI);
        sender.typed(PI, 3, 0, 0x00E1, 0);
        sender.typed(PI, 3, 0, 0x30E1, 0);
        sender.typed(PI, 3, 0, 0x70E1, 0);
        for (int what = 7; what <= 9; what++) {
            t.programme(sender, what, -1);
        }
    }

    private static void textBytes(Edges t) {
        t.edge(11, "2A: C and D, both known: bytes 4 s .. 4 s + 3 of the TEXT'S DRAFT, 2B: D: bytes 2 s, 2 s + 1, "
                + "s being b3 .. b0; the FLAG is b4.");
        for (int version = 0; version <= 1; version++) {
            int size = 4 - 2 * version;
            StringBuilder all = new StringBuilder();
            for (int i = 0; i < 16 * size; i++) {
                all.append((char) (255 - i));
            }
            Sender sender = Sender.synced(PI);
            for (int s = 15; s >= 0; s--) {
                int at = size * s;
                int d = all.charAt(at + size - 2) << 8 | all.charAt(at + size - 1);
                sender.typed(PI, 4 + version, s, all.charAt(at) << 8 | all.charAt(at + 1), d);
                t.marks(sender, 1, s == 0 ? 0 : 0xFFFF & -1 << s);
            }
            t.letters(sender, 1, all.toString());
            sender.typed(PI, 4 + version, 0, 0x4142, 0x4142);
            sender.typed(PI, 4 + version, 16 | 15, 0x4142, 0x4142);
            t.marks(sender, 1, 0x8000);
        }
    }

    private static void kindBytes(Edges t) {
        t.edge(11, "10A: C and D, both known: bytes 4 s .. 4 s + 3 of the KIND'S DRAFT, s being b0; its FLAG is b4.");
        Sender sender = Sender.synced(PI);
        sender.typed(PI, 20, 0b01111, 0x4546, 0x4748);
        t.marks(sender, 2, 2);
        sender.typed(PI, 20, 0b01110, 0x4142, 0x4344);
        t.letters(sender, 2, "ABCDEFGH");
        sender.typed(PI, 20, 0b00000, 0x4142, 0x4344);
        sender.typed(PI, 20, 0b10001, 0x4142, 0x4344);
        t.marks(sender, 2, 2);
        sender.typed(PI, 21, 0, 0x4142, 0x4344);
        t.marks(sender, 2, 2);
    }

    private static void odaOfAThreeA(Edges t) {
        t.edge(14, "3A: b4 .. b0 tell a TYPE and version (b4 .. b1, b0), D an AID: with both C and D known, an ODA (3).");
        int[] words = {0, 0xFFFF, 0x8001};
        for (int five = 0; five < 32; five++) {
            for (int word : words) {
                Sender sender = Sender.synced(PI);
                sender.typed(PI, 6, five, word, word ^ 0xFFFF);
                t.oda(sender, 0, word ^ 0xFFFF, five, word);
            }
        }
        Sender sender = Sender.synced(PI);
        sender.typed(PI, 7, 22, PI, 19415);
        sender.typed(PI, 6, 22, R, 19415);
        sender.typed(PI, 6, 22, 5, R);
        t.oda(sender, 0);
    }

    private static void anotherOne(Edges t) {
        t.edge(16, "14A, 14B: D: the PI of ANOTHER one (3). 14A: TP b4; the variant v is b3 .. b0.");
        int[] identities = {0, 1, PI, 0xFFFF};
        for (int type = 28; type <= 29; type++) {
            for (int pi : identities) {
                Sender sender = Sender.synced(PI);
                sender.typed(PI, type, 0b10000, 0, pi);
                t.other(sender, 0, pi, 1);
                sender.typed(PI, type, 0b01111, 0, pi);
                t.other(sender, 0, pi, 0);
                t.other(sender, 1);
                t.programme(sender, 0, PI);
            }
        }
    }

    private static void variants(Edges t) {
        t.edge(16, "With C known: v 0 to 3: bytes 2 v, 2 v + 1 of its NAME'S DRAFT; 4: its two AF bytes, as they are; "
                + "5 to 8: MAPPED v - 5 (what is heard b15 .. b8, and where b7 .. b0); 12: its LINK; "
                + "13: PTY b15 .. b11, TA b0; 14: its PIN.");
        // What each variant sets: 4 to 8 stand at 6 to 10, then LINK and PIN; 13 is apart.
        int[] at = {-1, -1, -1, -1, 6, 7, 8, 9, 10, -1, -1, -1, 5, -1, 4, -1};
        int[] words = {0, 0xFFFF, 0xE1FA, 0x07FE, 0xF801};
        for (int v = 0; v < 16; v++) {
            for (int c : words) {
                Sender sender = Sender.synced(PI);
                sender.typed(PI, 28, 16 | v, c, 8);
                int[] wants = {8, 1, -1, -1, -1, -1, -1, -1, -1, -1, -1, 0};
                if (at[v] >= 0) {
                    wants[at[v]] = c;
                }
                if (v == 13) {
                    wants[2] = c >> 11;
                    wants[3] = c & 1;
                }
                t.other(sender, 0, wants);
                t.list(sender, 0);
            }
        }
        Sender sender = Sender.synced(PI);
        for (int v = 3; v >= 0; v--) {
            t.otherName(sender, 0, "");
            sender.typed(PI, 28, v, 0x4142 + 0x0202 * v, 8);
        }
        t.otherName(sender, 0, "ABCDEFGH");
    }

    private static void fourteenB(Edges t) {
        t.edge(16, "14B: TP b4, TA b3.");
        for (int five = 0; five < 32; five++) {
            Sender sender = Sender.synced(PI);
            sender.typed(PI, 29, five, R, 8);
            t.other(sender, 0, 8, five >> 4, -1, five >> 3 & 1, -1, -1, -1, -1, -1, -1, -1, 0);
            sender.typed(PI, 29, five, 0x4142, 8);
            t.other(sender, 0, 8, five >> 4, -1, five >> 3 & 1, -1, -1, -1, -1, -1, -1, -1, 0);
        }
    }

    private static void allOthers(Edges t) {
        t.edge(8, "All others: nothing.");
        int[] types = {7, 9, 10, 11, 12, 13, 14, 15, 16, 17, 18, 19, 21, 22, 23, 24, 25, 26, 27, 30};
        for (int type : types) {
            for (int five = 0; five < 32; five += 31) {
                Sender sender = Sender.synced(PI);
                sender.typed(PI, type, five, 0x0D0D, 0x0D0D);
                sender.typed(PI, type, five, 0xE109, 0);
                t.programme(sender, 0, PI);
                for (int what = 3; what <= 9; what++) {
                    t.programme(sender, what, -1);
                }
                for (int what = 0; what <= 5; what++) {
                    t.reports(sender, what, 0);
                }
                for (int what = 0; what <= 2; what++) {
                    t.marks(sender, what, 0);
                }
                t.oda(sender, 0);
                t.other(sender, 0);
            }
        }
    }

    private static void programmeWhats(Edges t) {
        t.edge(8, "0 PI, 1 TP, 2 PTY, 3 TA, 4 MS,");
        int[][] rows = {{0xFFFF, 1, 31, 1, 0}, {0, 0, 0, 0, 1}, {1, 1, 0, 0, 0}, {0x8000, 0, 16, 1, 1}};
        for (int[] row : rows) {
            Sender sender = Sender.synced(row[0]);
            sender.group(row[0], Sender.second(1, row[1], row[2], row[3] << 4 | row[4] << 3), row[0], R);
            for (int what = 0; what < row.length; what++) {
                t.programme(sender, what, row[what]);
            }
        }
    }

    private static void decoderBitsThatHaveNotCome(Edges t) {
        t.edge(8, "5 DI (bits that haven't come are 0), 6 PIN, 7 ECC, 8 LANGUAGE, 9 WARNING.");
        for (int type : WITH_SWITCHES) {
            for (int s = 0; s < 4; s++) {
                Sender sender = Sender.synced(PI);
                t.programme(sender, 5, -1);
                sender.typed(PI, type, s, PI, R);
                t.programme(sender, 5, 0);
                sender.typed(PI, type, 4 | s, PI, R);
                t.programme(sender, 5, 8 >> s);
            }
        }
        Sender sender = Sender.synced(PI);
        sender.typed(PI, 2, 0, 0x00FF, 0xFFFF);
        sender.typed(PI, 2, 0, 0x30FE, 0xFFFF);
        sender.typed(PI, 2, 0, 0x7FFF, 0xFFFD);
        int[] wants = {0xFFFD, 0xFF, 0xFE, 0xFFF};
        for (int what = 6; what <= 9; what++) {
            t.programme(sender, what, wants[what - 6]);
        }
    }

    private static void programmeHasNotCome(Edges t) {
        t.edge(8, "NONE for what hasn't come, and another what.");
        int[] wrong = {-1, 10, 11, Integer.MIN_VALUE, Integer.MAX_VALUE};
        Sender[] senders = {new Sender(), Sender.synced(PI), Sender.filled(PI)};
        for (Sender sender : senders) {
            for (int what : wrong) {
                t.programme(sender, what, -1);
            }
        }
        for (int what = 0; what <= 9; what++) {
            t.programme(senders[0], what, -1);
            t.programme(senders[1], what, what == 0 ? PI : what == 1 ? 1 : what == 2 ? 31 : -1);
        }
    }
}
