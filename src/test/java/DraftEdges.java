/** Edges of the Term DRAFT, and of promises 9 to 11. */
final class DraftEdges {
    private static final int R = Sender.RUINED;
    private static final int PI = 7;
    private static final int NAME = 0;
    private static final int TEXT = 1;
    private static final int KIND = 2;
    private static final int[] OTHER_WHATS = {-1, -2, 6, 7, Integer.MIN_VALUE, Integer.MAX_VALUE};

    private DraftEdges() {
    }

    static void run(Edges t) {
        atFirst(t);
        markedAndOtherBytes(t);
        markedAndTheSameBytes(t);
        notMarkedAndOtherBytes(t);
        fullThen(t);
        nameIsFull(t);
        kindIsFull(t);
        kindFlag(t);
        textPieces(t);
        textFlagOrVersion(t);
        textFlagOfAPieceThatDidNotCome(t);
        textIsFull(t);
        textIsFullOfAllSixteen(t);
        textAheadOfThe13(t);
        reportsWhats(t);
        reportsOfAnotherWhat(t);
        letterWhats(t);
        letterThatIsNotThere(t);
        marksAsBits(t);
        marksOfAnotherWhat(t);
    }

    private static int two(String text, int at) {
        return text.charAt(at) << 8 | text.charAt(at + 1);
    }

    private static void name(Sender sender, int s, String piece) {
        sender.typed(PI, 0, s, 0xCDCD, two(piece, 0));
    }

    private static void longPiece(Sender sender, int flag, int s, String piece) {
        sender.typed(PI, 4, flag << 4 | s, two(piece, 0), two(piece, 2));
    }

    private static void shortPiece(Sender sender, int flag, int s, String piece) {
        sender.typed(PI, 5, flag << 4 | s, PI, two(piece, 0));
    }

    private static void kind(Sender sender, int flag, int s, String piece) {
        sender.typed(PI, 20, flag << 4 | s, two(piece, 0), two(piece, 2));
    }

    /** The PIECE of a DRAFT that has these bytes; a NAME takes the first two of them. */
    private static void piece(Sender sender, int what, int s, String bytes) {
        switch (what) {
            case NAME: name(sender, s, bytes); break;
            case TEXT: longPiece(sender, 0, s, bytes); break;
            default: kind(sender, 0, s, bytes); break;
        }
    }

    private static void atFirst(Edges t) {
        t.edge(11, "A DRAFT has PIECES, each as long as told, at first none is MARKED.");
        for (int what = 0; what <= 2; what++) {
            t.marks(new Sender(), what, 0);
            t.marks(Sender.synced(PI), what, 0);
            // The bytes 0 that a PIECE may have are not there ahead of it.
            Sender sender = Sender.synced(PI);
            piece(sender, what, 1, "\u0000\u0000\u0000\u0000");
            t.marks(sender, what, 2);
            t.letters(sender, what, "");
        }
    }

    private static void markedAndOtherBytes(Edges t) {
        t.edge(11, "A PIECE comes: if it is MARKED and other bytes are there, all MARKS go;");
        for (int what = 0; what <= 2; what++) {
            int size = what == NAME ? 2 : 4;
            for (int at = 0; at < size; at++) {
                // Other in just one byte, and there in just one bit.
                StringBuilder changed = new StringBuilder("ABCD");
                changed.setCharAt(at, (char) (changed.charAt(at) ^ 0x80));
                Sender sender = Sender.synced(PI);
                if (what != KIND) {
                    piece(sender, what, 3, "wxyz");
                }
                piece(sender, what, 1, "ABCD");
                piece(sender, what, 1, changed.toString());
                t.marks(sender, what, 2);
                piece(sender, what, 1, "ABCD");
                t.marks(sender, what, 2);
            }
        }
    }

    private static void markedAndTheSameBytes(Edges t) {
        t.edge(11, "A PIECE comes: if it is MARKED and other bytes are there, all MARKS go;");
        for (int what = 0; what <= 2; what++) {
            Sender sender = Sender.synced(PI);
            if (what != KIND) {
                piece(sender, what, 3, "wxyz");
            }
            piece(sender, what, 1, "ABCD");
            piece(sender, what, 1, "ABCD");
            t.marks(sender, what, what == KIND ? 2 : 10);
            t.reports(sender, what, 0);
        }
    }

    /** What is there of a PIECE whose MARK has gone does not stand in the way. */
    private static void notMarkedAndOtherBytes(Edges t) {
        t.edge(11, "then its bytes are there, it is MARKED;");
        Sender sender = Sender.synced(PI);
        name(sender, 0, "AB");
        name(sender, 1, "CD");
        name(sender, 1, "EF");
        t.marks(sender, NAME, 2);
        name(sender, 0, "GH");
        t.marks(sender, NAME, 3);
        name(sender, 2, "IJ");
        name(sender, 3, "KL");
        t.letters(sender, NAME, "GHEFIJKL");
        // Nor what is there of a FULL one.
        name(sender, 3, "MN");
        name(sender, 0, "GH");
        t.marks(sender, NAME, 9);
    }

    private static void fullThen(Edges t) {
        t.edge(9, "if the DRAFT is FULL then, it is what the NAME, TEXT, KIND is (REPORTS count one more), and all MARKS go.");
        int[] pieces = {4, 16, 2};
        int[] sizes = {2, 4, 4};
        for (int what = 0; what <= 2; what++) {
            Sender sender = Sender.synced(PI);
            for (int round = 1; round <= 2; round++) {
                String bytes = "ABCDEFGHI".substring(round, round + 4);
                for (int s = 0; s < pieces[what]; s++) {
                    t.marks(sender, what, (1 << s) - 1);
                    t.reports(sender, what, round - 1);
                    piece(sender, what, s, bytes);
                }
                t.reports(sender, what, round);
                t.marks(sender, what, 0);
                t.letters(sender, what, bytes.substring(0, sizes[what]).repeat(pieces[what]));
            }
            // The same ones again are one more.
            for (int s = 0; s < pieces[what]; s++) {
                piece(sender, what, s, "CDEF");
            }
            t.reports(sender, what, 3);
        }
    }

    private static void nameIsFull(Edges t) {
        t.edge(10, "NAMES: FULL with all four PIECES.");
        for (int last = 0; last < 4; last++) {
            Sender sender = Sender.synced(PI);
            for (int s = 0; s < 4; s++) {
                if (s != last) {
                    name(sender, s, "A\r");
                }
            }
            t.reports(sender, NAME, 0);
            t.marks(sender, NAME, 15 - (1 << last));
            t.letters(sender, NAME, "");
            name(sender, last, "B\r");
            t.reports(sender, NAME, 1);
            t.marks(sender, NAME, 0);
        }
        Sender sender = Sender.synced(PI);
        for (int v = 0; v < 4; v++) {
            t.other(sender, 0, v == 0 ? new int[0] : new int[] {8, 0, -1, -1, -1, -1, -1, -1, -1, -1, -1, 0});
            sender.typed(PI, 28, v, 0x0D0D, 8);
        }
        t.other(sender, 0, 8, 0, -1, -1, -1, -1, -1, -1, -1, -1, -1, 1);
        t.otherName(sender, 0, "\r".repeat(8));
    }

    private static void kindIsFull(Edges t) {
        t.edge(10, "KIND (8 bytes): with both;");
        for (int first = 0; first <= 1; first++) {
            Sender sender = Sender.synced(PI);
            kind(sender, 1, first, "AB\rD");
            t.reports(sender, KIND, 0);
            t.letters(sender, KIND, "");
            kind(sender, 1, 1 - first, "\rFGH");
            t.reports(sender, KIND, 1);
            t.letters(sender, KIND, first == 0 ? "AB\rD\rFGH" : "\rFGHAB\rD");
        }
    }

    private static void kindFlag(Edges t) {
        t.edge(11, "another FLAG than that of the PIECE before it: all MARKS go first.");
        for (int flag = 0; flag <= 1; flag++) {
            Sender sender = Sender.synced(PI);
            kind(sender, flag, 0, "ABCD");
            kind(sender, 1 - flag, 1, "EFGH");
            t.reports(sender, KIND, 0);
            t.marks(sender, KIND, 2);
            // The same bytes with another FLAG: the other PIECE's MARK goes too.
            kind(sender, flag, 1, "EFGH");
            t.marks(sender, KIND, 2);
            kind(sender, flag, 0, "ABCD");
            t.reports(sender, KIND, 1);
            t.letters(sender, KIND, "ABCDEFGH");
        }
        flagIsOneBit(t, 20, KIND);
        // Of a PIECE that did not come, for C or D is not known, the FLAG says nothing.
        Sender sender = Sender.synced(PI);
        kind(sender, 0, 0, "ABCD");
        sender.typed(PI, 20, 16, R, 0x4142);
        sender.typed(PI, 20, 16, 0x4142, R);
        kind(sender, 0, 1, "EFGH");
        t.reports(sender, KIND, 1);
    }

    /** PTY's lowest bit stands next to it, and is no part of it. */
    private static void flagIsOneBit(Edges t, int type, int what) {
        for (int flag = 0; flag <= 1; flag++) {
            Sender sender = Sender.synced(PI);
            sender.group(PI, Sender.second(type, 0, 0, flag << 4), 0x4142, 0x4142);
            t.marks(sender, what, 1);
            sender.group(PI, Sender.second(type, 0, 1, flag << 4 | 1), 0x4142, 0x4142);
            t.marks(sender, what, what == KIND ? 0 : 3);
            t.reports(sender, what, what == KIND ? 1 : 0);
        }
    }

    private static void textPieces(Edges t) {
        t.edge(11, "TEXT: PIECES of 4 (2A) or 2 (2B), sixteen of them;");
        Sender sender = Sender.synced(PI);
        longPiece(sender, 0, 0, "ABCD");
        t.marks(sender, TEXT, 1);
        longPiece(sender, 0, 15, "EF\rG");
        t.marks(sender, TEXT, 0x8001);
        sender = Sender.synced(PI);
        shortPiece(sender, 0, 15, "E\r");
        t.marks(sender, TEXT, 0x8000);
        for (int s = 0; s < 15; s++) {
            t.reports(sender, TEXT, 0);
            shortPiece(sender, 0, s, "AB");
        }
        t.letters(sender, TEXT, "AB".repeat(15) + "E");
    }

    private static void textFlagOrVersion(Edges t) {
        t.edge(11, "if the FLAG or the version is another one than that of the PIECE before it, all MARKS go first.");
        for (int before = 0; before < 4; before++) {
            for (int then = 0; then < 4; then++) {
                Sender sender = Sender.synced(PI);
                textPiece(sender, before, 0);
                textPiece(sender, before, 1);
                t.marks(sender, TEXT, 3);
                textPiece(sender, then, 1);
                t.marks(sender, TEXT, before == then ? 3 : 2);
                textPiece(sender, then, 2);
                t.marks(sender, TEXT, before == then ? 7 : 6);
                textPiece(sender, before, 3);
                t.marks(sender, TEXT, before == then ? 15 : 8);
            }
        }
        flagIsOneBit(t, 4, TEXT);
        flagIsOneBit(t, 5, TEXT);
        // A 13 that came with another FLAG ends nothing any more.
        Sender sender = Sender.synced(PI);
        longPiece(sender, 0, 1, "E\rGH");
        longPiece(sender, 1, 0, "ABCD");
        t.reports(sender, TEXT, 0);
        // The TEXT that is there stays.
        longPiece(sender, 1, 1, "E\rGH");
        longPiece(sender, 0, 0, "wxyz");
        t.letters(sender, TEXT, "ABCDE");
        t.reports(sender, TEXT, 1);
    }

    /** FLAG (0, 1) and version (A below 2) in one number. */
    private static void textPiece(Sender sender, int flagAndVersion, int s) {
        if (flagAndVersion < 2) {
            longPiece(sender, flagAndVersion, s, "ABAB");
        } else {
            shortPiece(sender, flagAndVersion - 2, s, "AB");
        }
    }

    private static void textFlagOfAPieceThatDidNotCome(Edges t) {
        t.edge(11, "if the FLAG or the version is another one than that of the PIECE before it, all MARKS go first.");
        Sender sender = Sender.synced(PI);
        longPiece(sender, 0, 0, "ABCD");
        sender.typed(PI, 4, 16, R, 0x4142);
        sender.typed(PI, 4, 16, 0x4142, R);
        sender.typed(PI, 5, 0, PI, R);
        longPiece(sender, 0, 1, "EFGH");
        t.marks(sender, TEXT, 3);
        // The KIND's FLAG and the NAME's PIECES are no matter of the TEXT's.
        kind(sender, 1, 0, "ABCD");
        name(sender, 0, "AB");
        longPiece(sender, 0, 2, "EFGH");
        t.marks(sender, TEXT, 7);
    }

    private static void textIsFull(Edges t) {
        t.edge(10, "FULL: all that are up to the first one that is MARKED and has a byte 13 in it");
        // A 13 in each PIECE, the last one that comes being each of those up to it.
        for (int end = 0; end < 16; end++) {
            for (int last = 0; last <= end; last++) {
                Sender sender = Sender.synced(PI);
                for (int s = 15; s >= 0; s--) {
                    if (s <= end && s != last) {
                        shortPiece(sender, 0, s, s == end ? "x\r" : "AB");
                    }
                }
                t.reports(sender, TEXT, 0);
                shortPiece(sender, 0, last, last == end ? "x\r" : "AB");
                t.reports(sender, TEXT, 1);
                t.marks(sender, TEXT, 0);
                t.letters(sender, TEXT, "AB".repeat(end) + "x");
            }
        }
        // Of two such PIECES the first one; those behind it are no matter, MARKED or not.
        Sender sender = Sender.synced(PI);
        longPiece(sender, 0, 9, "zz\rz");
        longPiece(sender, 0, 5, "z\rzz");
        longPiece(sender, 0, 1, "E\rGH");
        t.reports(sender, TEXT, 0);
        longPiece(sender, 0, 0, "ABCD");
        t.letters(sender, TEXT, "ABCDE");
        t.marks(sender, TEXT, 0);
        // A 13 that is there, but in a PIECE that is not MARKED, is none: be it the next byte behind those that are.
        longPiece(sender, 0, 1, "\rFGH");
        longPiece(sender, 0, 0, "ABCD");
        t.reports(sender, TEXT, 2);
        longPiece(sender, 0, 0, "WXYZ");
        t.reports(sender, TEXT, 2);
        sender = Sender.synced(PI);
        longPiece(sender, 0, 1, "E\rGH");
        longPiece(sender, 0, 0, "ABCD");
        longPiece(sender, 0, 0, "ABCD");
        t.reports(sender, TEXT, 1);
        t.marks(sender, TEXT, 1);
        for (int s = 2; s < 16; s++) {
            longPiece(sender, 0, s, "WXYZ");
            t.reports(sender, TEXT, 1);
        }
        longPiece(sender, 0, 1, "EFGH");
        t.letters(sender, TEXT, "ABCDEFGH" + "WXYZ".repeat(14));
    }

    private static void textIsFullOfAllSixteen(Edges t) {
        t.edge(10, "(without one: all sixteen) are MARKED;");
        for (int version = 0; version <= 1; version++) {
            for (int last = 0; last < 16; last++) {
                Sender sender = Sender.synced(PI);
                for (int i = 1; i <= 16; i++) {
                    t.reports(sender, TEXT, 0);
                    textPiece(sender, 2 * version, (last + i) % 16);
                }
                t.reports(sender, TEXT, 1);
                t.marks(sender, TEXT, 0);
                t.letters(sender, TEXT, "AB".repeat(version == 0 ? 32 : 16));
            }
        }
    }

    private static void textAheadOfThe13(Edges t) {
        t.edge(10, "the TEXT is the bytes ahead of that 13 (all).");
        String[] pieces = {"\rBCD", "A\rCD", "AB\rD", "ABC\r", "\r\r\r\r", "A\r\rD", "ABC\u000e"};
        String[] texts = {"", "A", "AB", "ABC", "", "A", null};
        for (int i = 0; i < pieces.length; i++) {
            Sender sender = Sender.synced(PI);
            longPiece(sender, 0, 0, pieces[i]);
            t.reports(sender, TEXT, texts[i] == null ? 0 : 1);
            t.letters(sender, TEXT, texts[i] == null ? "" : texts[i]);
        }
        // A shorter TEXT has nothing of the longer one before it, an empty one nothing at all.
        Sender sender = Sender.synced(PI);
        longPiece(sender, 0, 0, "ABC\r");
        shortPiece(sender, 0, 0, "w\r");
        t.letters(sender, TEXT, "w");
        shortPiece(sender, 0, 0, "\rx");
        t.letters(sender, TEXT, "");
        t.reports(sender, TEXT, 3);
        // The 13 is the very last byte of all, 63 are ahead of it.
        for (int s = 0; s < 16; s++) {
            longPiece(sender, 0, s, s == 15 ? "ABC\r" : "ABCD");
        }
        t.letters(sender, TEXT, "ABCD".repeat(15) + "ABC");
    }

    private static void reportsWhats(Edges t) {
        t.edge(9, "REPORTS of 0 the NAME, 1 the TEXT, 2 the KIND, 3 the LIST, 4 the TIME, "
                + "5 TAGS (each time that C and D came).");
        Sender sender = Sender.synced(PI);
        sender.typed(PI, 6, 22, 0, 19415);
        for (int what = 0; what <= 5; what++) {
            t.reports(new Sender(), what, 0);
            t.reports(sender, what, 0);
        }
        int[] wants = new int[6];
        for (int what = 0; what <= 5; what++) {
            for (int times = 0; times <= what; times++) {
                report(sender, what);
                wants[what]++;
                for (int other = 0; other <= 5; other++) {
                    t.reports(sender, other, wants[other]);
                }
            }
        }
        // TAGS: not without C, nor without D.
        sender.typed(PI, 22, 0, R, 0);
        sender.typed(PI, 22, 0, 0, R);
        t.reports(sender, 5, 6);
    }

    private static void report(Sender sender, int what) {
        switch (what) {
            case 0:
                for (int s = 0; s < 4; s++) {
                    name(sender, s, "AB");
                }
                break;
            case 1: longPiece(sender, 0, 0, "A\rAA"); break;
            case 2: kind(sender, 0, 0, "ABCD"); kind(sender, 0, 1, "ABCD"); break;
            // With a PIECE that is MARKED already or goes on to be: the NAME is not FULL with it.
            case 3: sender.typed(PI, 0, 0, 225 << 8 | 9, 0x4142); break;
            case 4: sender.typed(PI, 8, 0, 0, 0); break;
            default: sender.typed(PI, 22, 0, 0, 0); break;
        }
    }

    private static void reportsOfAnotherWhat(Edges t) {
        t.edge(9, "NONE for another what.");
        for (int what : OTHER_WHATS) {
            t.reports(new Sender(), what, -1);
            t.reports(Sender.filled(PI), what, -1);
        }
    }

    private static void letterWhats(Edges t) {
        t.edge(10, "Byte k (0 .. 255) of 0 the NAME, 1 the TEXT, 2 the KIND, 3 the first TAG's piece, 4 the second one's.");
        Sender sender = Sender.synced(PI);
        name(sender, 0, "\u0000\u00ff");
        name(sender, 1, "\u0080\u007f");
        name(sender, 2, "\r\n");
        name(sender, 3, "~ ");
        longPiece(sender, 0, 0, "\u00ff\u0000\u0080\u007f");
        longPiece(sender, 0, 1, "YZ\r\r");
        kind(sender, 0, 0, "\u00ff\u00ff\u0000\u0000");
        kind(sender, 0, 1, "wxyz");
        sender.typed(PI, 6, 22, 0, 19415);
        // First: type 8, begin 1, more 2; second: type 1, begin 4, more 1.
        sender.typed(PI, 22, 1, 1 << 7 | 2 << 1, 1 << 11 | 4 << 5 | 1);
        t.letters(sender, 0, "\u0000\u00ff\u0080\u007f\r\n~ ");
        t.letters(sender, 1, "\u00ff\u0000\u0080\u007fYZ");
        t.letters(sender, 2, "\u00ff\u00ff\u0000\u0000wxyz");
        t.letters(sender, 3, "\u0000\u0080\u007f");
        t.letters(sender, 4, "YZ");
    }

    private static void letterThatIsNotThere(Edges t) {
        t.edge(10, "NONE if there is none such.");
        Sender sender = Sender.filled(PI);
        int[] ks = {-1, 8, 64, 255, 256, Integer.MIN_VALUE, Integer.MAX_VALUE};
        for (int what = 0; what <= 4; what++) {
            for (int k : ks) {
                t.due("letter(" + what + ", " + k + ")", sender.desk.letter(what, k), -1);
            }
            t.letters(new Sender(), what, "");
        }
        int[] whats = {-1, 5, 6, Integer.MIN_VALUE, Integer.MAX_VALUE};
        for (int what : whats) {
            t.letters(sender, what, "");
        }
    }

    private static void marksAsBits(Edges t) {
        t.edge(11, "Which PIECES of the DRAFT of 0 the NAME, 1 the TEXT, 2 the KIND are MARKED, as bits.");
        int[] pieces = {4, 16, 2};
        for (int what = 0; what <= 2; what++) {
            for (int s = 0; s < pieces[what]; s++) {
                Sender sender = Sender.synced(PI);
                piece(sender, what, s, "ABCD");
                for (int other = 0; other <= 2; other++) {
                    t.marks(sender, other, other == what ? 1 << s : 0);
                }
            }
        }
    }

    private static void marksOfAnotherWhat(Edges t) {
        t.edge(11, "NONE for another what.");
        t.marks(Sender.filled(PI), 3, -1);
        for (int what : OTHER_WHATS) {
            t.marks(new Sender(), what, -1);
            t.marks(Sender.filled(PI), what, -1);
        }
    }
}
