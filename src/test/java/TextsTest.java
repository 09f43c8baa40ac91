/** Promises 9, 10 and 11: reports, letter and marks of NAME, TEXT and KIND. */
public final class TextsTest {
    private static final Due TEST = new Due("TextsTest");
    private static final int R = Sender.RUINED;
    private static final int PI = 7;
    private static final int NAME = 0;
    private static final int TEXT = 1;
    private static final int KIND = 2;

    public static void main(String[] args) {
        names();
        namePieceChanges();
        nameOfBothVersions();
        longText();
        shortText();
        textEnds();
        textEndAheadOfPieces();
        textFlag();
        textVersion();
        textNeedsBlocks();
        textPieceChanges();
        kinds();
        kindFlag();
        kindNeedsBlocks();
        returnEndsTextsAlone();
        wrongArguments();
        TEST.end();
    }

    private static void dueReports(Sender sender, int what, int want) {
        TEST.due("reports(" + what + ")", sender.desk.reports(what), want);
    }

    private static void dueMarks(Sender sender, int what, int want) {
        TEST.due("marks(" + what + ")", sender.desk.marks(what), want);
    }

    /** All letters, and none ahead of and behind them. */
    private static void dueLetters(Sender sender, int what, String want) {
        TEST.due("letter(" + what + ", -1)", sender.desk.letter(what, -1), -1);
        for (int k = 0; k < want.length(); k++) {
            TEST.due("letter(" + what + ", " + k + ")", sender.desk.letter(what, k), want.charAt(k));
        }
        TEST.due("letter(" + what + ", " + want.length() + ")", sender.desk.letter(what, want.length()), -1);
    }

    private static int two(String text, int at) {
        return text.charAt(at) << 8 | text.charAt(at + 1);
    }

    private static void name(Sender sender, int s, String piece) {
        sender.typed(PI, 0, s, 0xCDCD, two(piece, 0));
    }

    private static void longPiece(Sender sender, int flag, int s, String piece) {
        sender.typed(PI, 4, flag << 4 | s, two(piece, 0), two(piece, 2));
    }

    private static void shortPiece(Sender sender, int flag, int s, String piece) {
        sender.typed(PI, 5, flag << 4 | s, PI, two(piece, 0));
    }

    private static void kind(Sender sender, int flag, int s, String piece) {
        sender.typed(PI, 20, flag << 4 | s, two(piece, 0), two(piece, 2));
    }

    private static void names() {
        TEST.about("9, 10, 11: NAME");
        Sender sender = Sender.synced(PI);
        name(sender, 2, "IO");
        dueMarks(sender, NAME, 0b0100);
        name(sender, 0, "RA");
        name(sender, 3, " \u00ff");
        dueMarks(sender, NAME, 0b1101);
        dueReports(sender, NAME, 0);
        dueLetters(sender, NAME, "");
        name(sender, 1, "D\u0000");
        dueMarks(sender, NAME, 0);
        dueReports(sender, NAME, 1);
        dueLetters(sender, NAME, "RAD\u0000IO \u00ff");
        name(sender, 0, "XX");
        dueMarks(sender, NAME, 1);
        dueLetters(sender, NAME, "RAD\u0000IO \u00ff");
        name(sender, 1, "YY");
        name(sender, 2, "ZZ");
        name(sender, 3, "WW");
        dueReports(sender, NAME, 2);
        dueLetters(sender, NAME, "XXYYZZWW");
    }

    private static void namePieceChanges() {
        TEST.about("11: a PIECE that is MARKED comes with other bytes");
        Sender sender = Sender.synced(PI);
        name(sender, 0, "AB");
        name(sender, 1, "CD");
        name(sender, 2, "EF");
        name(sender, 1, "CD");
        dueMarks(sender, NAME, 0b0111);
        name(sender, 1, "CX");
        dueMarks(sender, NAME, 0b0010);
        name(sender, 1, "YX");
        dueMarks(sender, NAME, 0b0010);
        name(sender, 3, "GH");
        dueMarks(sender, NAME, 0b1010);
        TEST.about("11: other bytes of a PIECE that is not MARKED do nothing else");
        name(sender, 0, "ZZ");
        dueMarks(sender, NAME, 0b1011);
        name(sender, 2, "QQ");
        dueLetters(sender, NAME, "ZZYXQQGH");
        dueReports(sender, NAME, 1);
    }

    private static void nameOfBothVersions() {
        TEST.about("10: NAME of 0A and 0B");
        Sender sender = Sender.synced(PI);
        for (int s = 0; s < 4; s++) {
            sender.typed(PI, s & 1, s, PI, two("ABCDEFGH", 2 * s));
        }
        dueLetters(sender, NAME, "ABCDEFGH");
        TEST.about("11: no PIECE of a NAME without D");
        sender.typed(PI, 0, 0, PI, R);
        dueMarks(sender, NAME, 0);
        sender.typed(PI, 0, 0, R, 0x4142);
        dueMarks(sender, NAME, 1);
    }

    private static void longText() {
        TEST.about("9, 10, 11: TEXT of 2A");
        Sender sender = Sender.synced(PI);
        StringBuilder all = new StringBuilder();
        for (int s = 0; s < 16; s++) {
            all.append((char) (32 + s)).append('b').append((char) (200 + s)).append('d');
        }
        for (int s = 15; s >= 0; s--) {
            dueReports(sender, TEXT, 0);
            dueMarks(sender, TEXT, 0xFFFF << s + 1 & 0xFFFF);
            longPiece(sender, 0, s, all.substring(4 * s, 4 * s + 4));
        }
        dueReports(sender, TEXT, 1);
        dueMarks(sender, TEXT, 0);
        dueLetters(sender, TEXT, all.toString());
    }

    private static void shortText() {
        TEST.about("9, 10, 11: TEXT of 2B");
        Sender sender = Sender.synced(PI);
        String all = "ABCDEFGHIJKLMNOPQRSTUVWXYZ012345";
        for (int s = 0; s < 16; s++) {
            dueReports(sender, TEXT, 0);
            shortPiece(sender, 1, s, all.substring(2 * s));
        }
        dueReports(sender, TEXT, 1);
        dueLetters(sender, TEXT, all);
    }

    private static void textEnds() {
        TEST.about("10: a 13 ends the TEXT");
        Sender sender = Sender.synced(PI);
        longPiece(sender, 0, 1, "EF\rH");
        dueReports(sender, TEXT, 0);
        longPiece(sender, 0, 0, "ABCD");
        dueReports(sender, TEXT, 1);
        dueLetters(sender, TEXT, "ABCDEF");
        dueMarks(sender, TEXT, 0);
        TEST.about("10: the first of two");
        longPiece(sender, 0, 0, "a\r\rx");
        dueReports(sender, TEXT, 2);
        dueLetters(sender, TEXT, "a");
        TEST.about("10: at once");
        shortPiece(sender, 0, 0, "\rx");
        dueReports(sender, TEXT, 3);
        dueLetters(sender, TEXT, "");
        TEST.about("10: in the last byte of all");
        for (int s = 0; s < 16; s++) {
            shortPiece(sender, 0, s, s == 15 ? "y\r" : "xx");
        }
        dueReports(sender, TEXT, 4);
        dueLetters(sender, TEXT, "xx".repeat(15) + "y");
        TEST.about("10: 2B, behind some");
        shortPiece(sender, 0, 1, "C\r");
        shortPiece(sender, 0, 0, "AB");
        dueReports(sender, TEXT, 5);
        dueLetters(sender, TEXT, "ABC");
    }

    /** What lies behind the 13's PIECE may be MARKED or not; an unMARKED PIECE's old 13 is no end. */
    private static void textEndAheadOfPieces() {
        TEST.about("10: PIECES behind the 13");
        Sender sender = Sender.synced(PI);
        longPiece(sender, 0, 5, "zz\rz");
        longPiece(sender, 0, 2, "IJ\rL");
        longPiece(sender, 0, 0, "ABCD");
        dueMarks(sender, TEXT, 0b100101);
        longPiece(sender, 0, 1, "EFGH");
        dueLetters(sender, TEXT, "ABCDEFGHIJ");
        dueMarks(sender, TEXT, 0);
        TEST.about("10: an old 13 that is not MARKED");
        for (int s = 0; s < 16; s++) {
            dueReports(sender, TEXT, 1);
            longPiece(sender, 0, s == 2 ? 3 : s == 3 ? 2 : s, "wxyz");
        }
        dueReports(sender, TEXT, 2);
        dueLetters(sender, TEXT, "wxyz".repeat(16));
    }

    private static void textFlag() {
        TEST.about("11: another FLAG");
        Sender sender = Sender.synced(PI);
        longPiece(sender, 0, 0, "ABCD");
        longPiece(sender, 0, 1, "EFGH");
        dueMarks(sender, TEXT, 3);
        longPiece(sender, 1, 1, "EFGH");
        dueMarks(sender, TEXT, 2);
        longPiece(sender, 1, 2, "IJKL");
        dueMarks(sender, TEXT, 6);
        longPiece(sender, 0, 0, "IJKL");
        dueMarks(sender, TEXT, 1);
        TEST.about("10: the TEXT stays with another FLAG");
        longPiece(sender, 0, 1, "\rJKL");
        dueLetters(sender, TEXT, "IJKL");
        longPiece(sender, 1, 3, "wxyz");
        dueLetters(sender, TEXT, "IJKL");
        dueReports(sender, TEXT, 1);
        TEST.about("11: another FLAG of 2B");
        sender = Sender.synced(PI);
        shortPiece(sender, 1, 0, "AB");
        shortPiece(sender, 1, 1, "CD");
        dueMarks(sender, TEXT, 3);
        shortPiece(sender, 0, 2, "EF");
        dueMarks(sender, TEXT, 4);
        shortPiece(sender, 0, 3, "GH");
        dueMarks(sender, TEXT, 12);
        TEST.about("11: version and FLAG of 2B that tell apart together");
        longPiece(sender, 1, 5, "ABCD");
        shortPiece(sender, 1, 6, "AB");
        dueMarks(sender, TEXT, 64);
        TEST.about("11: PTY's lowest bit is no part of the FLAG");
        sender.group(PI, Sender.second(5, 0, 0, 16 | 7), PI, 0x4142);
        dueMarks(sender, TEXT, 192);
        sender.group(PI, Sender.second(20, 0, 0, 0), 0x4142, 0x4142);
        sender.group(PI, Sender.second(20, 0, 1, 1), 0x4142, 0x4142);
        dueReports(sender, KIND, 1);
        longPiece(sender, 0, 0, "ABCD");
        sender.group(PI, Sender.second(4, 0, 0, 1), 0x4142, 0x4142);
        dueMarks(sender, TEXT, 3);
        TEST.about("11: the first FLAG of all is 1");
        sender = Sender.synced(PI);
        longPiece(sender, 1, 3, "ABCD");
        dueMarks(sender, TEXT, 8);
    }

    private static void textVersion() {
        TEST.about("11: another version");
        Sender sender = Sender.synced(PI);
        longPiece(sender, 0, 0, "ABCD");
        shortPiece(sender, 0, 1, "CD");
        dueMarks(sender, TEXT, 2);
        shortPiece(sender, 0, 2, "CD");
        dueMarks(sender, TEXT, 6);
        longPiece(sender, 0, 3, "CDEF");
        dueMarks(sender, TEXT, 8);
        longPiece(sender, 1, 4, "CDEF");
        dueMarks(sender, TEXT, 16);
        shortPiece(sender, 0, 5, "CD");
        dueMarks(sender, TEXT, 32);
    }

    /** A GROUP without its PIECE has no FLAG that counts. */
    private static void textNeedsBlocks() {
        TEST.about("11: 2A needs C and D, 2B needs D");
        Sender sender = Sender.synced(PI);
        longPiece(sender, 0, 0, "ABCD");
        sender.typed(PI, 4, 16 | 1, R, 0x4142);
        sender.typed(PI, 4, 16 | 1, 0x4142, R);
        sender.typed(PI, 5, 1, PI, R);
        dueMarks(sender, TEXT, 1);
        longPiece(sender, 0, 1, "EFGH");
        dueMarks(sender, TEXT, 3);
        sender.typed(PI, 5, 2, R, 0x4142);
        dueMarks(sender, TEXT, 4);
    }

    private static void textPieceChanges() {
        TEST.about("11: a PIECE of the TEXT with other bytes");
        for (int at = 0; at < 4; at++) {
            Sender sender = Sender.synced(PI);
            longPiece(sender, 0, 0, "ABCD");
            longPiece(sender, 0, 7, "EFGH");
            longPiece(sender, 0, 7, "EFGH");
            dueMarks(sender, TEXT, 129);
            longPiece(sender, 0, 7, "EFGH".substring(0, at) + "x" + "EFGH".substring(at + 1));
            dueMarks(sender, TEXT, 128);
        }
    }

    private static void kinds() {
        TEST.about("9, 10, 11: KIND");
        Sender sender = Sender.synced(PI);
        kind(sender, 0, 1, "ball");
        dueMarks(sender, KIND, 2);
        dueReports(sender, KIND, 0);
        dueLetters(sender, KIND, "");
        kind(sender, 0, 0, "Foot");
        dueMarks(sender, KIND, 0);
        dueReports(sender, KIND, 1);
        dueLetters(sender, KIND, "Football");
        TEST.about("10: b3 .. b1 are no part of the KIND's s");
        sender.typed(PI, 20, 0b01110, two("Volley", 0), two("Volley", 2));
        dueMarks(sender, KIND, 1);
        kind(sender, 0, 0, "Hand");
        dueMarks(sender, KIND, 1);
        kind(sender, 0, 1, "ball");
        dueLetters(sender, KIND, "Handball");
        dueReports(sender, KIND, 2);
    }

    private static void kindFlag() {
        TEST.about("11: another FLAG of the KIND");
        Sender sender = Sender.synced(PI);
        kind(sender, 1, 0, "Foot");
        kind(sender, 0, 1, "ball");
        dueMarks(sender, KIND, 2);
        dueReports(sender, KIND, 0);
        kind(sender, 1, 0, "Hand");
        dueMarks(sender, KIND, 1);
        TEST.about("11: the TEXT's FLAG is another matter");
        longPiece(sender, 0, 0, "ABCD");
        kind(sender, 1, 1, "ball");
        dueLetters(sender, KIND, "Handball");
        dueMarks(sender, TEXT, 1);
    }

    private static void kindNeedsBlocks() {
        TEST.about("11: 10A needs C and D");
        Sender sender = Sender.synced(PI);
        kind(sender, 0, 0, "Foot");
        sender.typed(PI, 20, 16 | 1, R, 0x4142);
        sender.typed(PI, 20, 16 | 1, 0x4142, R);
        dueMarks(sender, KIND, 1);
        sender.typed(PI, 21, 1, PI, 0x4142);
        dueMarks(sender, KIND, 1);
        kind(sender, 0, 1, "ball");
        dueReports(sender, KIND, 1);
    }

    private static void returnEndsTextsAlone() {
        TEST.about("10: a 13 in a NAME and a KIND is a byte as others are");
        Sender sender = Sender.synced(PI);
        name(sender, 0, "\r\r");
        name(sender, 1, "\rB");
        name(sender, 2, "\rB");
        dueReports(sender, NAME, 0);
        name(sender, 3, "\rB");
        dueLetters(sender, NAME, "\r\r\rB\rB\rB");
        kind(sender, 0, 0, "A\rCD");
        dueReports(sender, KIND, 0);
        kind(sender, 0, 1, "\r\r\r\r");
        dueLetters(sender, KIND, "A\rCD\r\r\r\r");
    }

    private static void wrongArguments() {
        TEST.about("9, 10, 11: wrong arguments");
        Sender sender = Sender.filled(PI);
        int[] wrong = {-1, 6, Integer.MAX_VALUE, Integer.MIN_VALUE};
        for (int what : wrong) {
            dueReports(sender, what, -1);
            dueMarks(sender, what, -1);
            TEST.due("letter(" + what + ", 0)", sender.desk.letter(what, 0), -1);
            for (int list = 0; list <= 2; list++) {
                int k = what == 6 ? 8 : what;
                TEST.due("letter(" + list + ", " + k + ")", sender.desk.letter(list, k), -1);
            }
        }
        dueMarks(sender, 3, -1);
        TEST.due("letter(5, 0)", sender.desk.letter(5, 0), -1);
    }
}
