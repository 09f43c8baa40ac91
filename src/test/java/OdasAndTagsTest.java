/** Promises 14 and 15: oda and tag; and letter's TAG pieces, of promise 10. */
public final class OdasAndTagsTest {
    private static final Due TEST = new Due("OdasAndTagsTest");
    private static final int R = Sender.RUINED;
    private static final int PI = 7;
    private static final int AID = 19415;

    public static void main(String[] args) {
        odas();
        odaNeedsBlocks();
        odaComesAgain();
        oldestOdaGoes();
        wrongOdas();
        tags();
        tagsNeedTheOda();
        tagsNeedVersionA();
        tagsNeedBlocks();
        tagsAndTheTypesOwn();
        tagsAheadOfANewOda();
        pieces();
        piecesOfTheTextAsItIs();
        wrongTags();
        TEST.end();
    }

    private static void sendOda(Sender sender, int type, int c, int aid) {
        sender.typed(PI, 6, type, c, aid);
    }

    private static void dueOda(Sender sender, int k, int aid, int type, int c) {
        TEST.due("oda(" + k + ", 0)", sender.desk.oda(k, 0), aid);
        TEST.due("oda(" + k + ", 1)", sender.desk.oda(k, 1), type);
        TEST.due("oda(" + k + ", 2)", sender.desk.oda(k, 2), c);
    }

    private static void dueTags(Sender sender, int reports, int... wants) {
        TEST.due("reports(5)", sender.desk.reports(5), reports);
        for (int what = 0; what < 8; what++) {
            TEST.due("tag(" + what + ")", sender.desk.tag(what), wants.length == 0 ? -1 : wants[what]);
        }
    }

    private static void odas() {
        TEST.about("14: ODAS");
        Sender sender = Sender.synced(PI);
        sendOda(sender, 31, 0xFFFF, 0);
        dueOda(sender, 0, 0, 31, 0xFFFF);
        dueOda(sender, 1, -1, -1, -1);
        sendOda(sender, 0, 0, 0xFFFF);
        dueOda(sender, 0, 0, 31, 0xFFFF);
        dueOda(sender, 1, 0xFFFF, 0, 0);
    }

    private static void odaNeedsBlocks() {
        TEST.about("14: 3A needs C and D");
        Sender sender = Sender.synced(PI);
        sendOda(sender, 22, R, AID);
        sendOda(sender, 22, 5, R);
        sender.typed(PI, 7, 22, PI, AID);
        dueOda(sender, 0, -1, -1, -1);
    }

    private static void odaComesAgain() {
        TEST.about("14: an AID that is there");
        Sender sender = Sender.synced(PI);
        sendOda(sender, 1, 11, 101);
        sendOda(sender, 2, 12, 102);
        sendOda(sender, 3, 13, 101);
        dueOda(sender, 0, 101, 3, 13);
        dueOda(sender, 1, 102, 2, 12);
        dueOda(sender, 2, -1, -1, -1);
    }

    private static void oldestOdaGoes() {
        TEST.about("14: eight");
        Sender sender = Sender.synced(PI);
        for (int i = 1; i <= 8; i++) {
            sendOda(sender, i, 10 + i, 100 + i);
        }
        sendOda(sender, 21, 31, 101);
        dueOda(sender, 0, 101, 21, 31);
        dueOda(sender, 7, 108, 8, 18);
        TEST.about("14: the ninth; the oldest is the one that first came first");
        sendOda(sender, 9, 19, 109);
        for (int k = 0; k < 8; k++) {
            dueOda(sender, k, 102 + k, 2 + k, 12 + k);
        }
        dueOda(sender, 8, -1, -1, -1);
        TEST.about("14: one that went comes as a new one");
        sendOda(sender, 5, 55, 101);
        dueOda(sender, 7, 101, 5, 55);
        dueOda(sender, 0, 103, 3, 13);
    }

    private static void wrongOdas() {
        TEST.about("14: wrong arguments");
        Sender sender = Sender.synced(PI);
        for (int i = 1; i <= 8; i++) {
            sendOda(sender, i, 10 + i, 100 + i);
        }
        int[] wrong = {-1, 8, 9, Integer.MAX_VALUE, Integer.MIN_VALUE};
        for (int k : wrong) {
            dueOda(sender, k, -1, -1, -1);
            TEST.due("oda(0, " + k + ")", sender.desk.oda(0, k), -1);
        }
        TEST.due("oda(0, 3)", sender.desk.oda(0, 3), -1);
    }

    /** The bits of two TAGS, as the document lays them out. */
    private static void sendTags(Sender sender, int type, int... tags) {
        int five = tags[0] << 4 | tags[1] << 3 | tags[2] >> 3;
        int c = (tags[2] & 7) << 13 | tags[3] << 7 | tags[4] << 1 | tags[5] >> 5;
        int d = (tags[5] & 31) << 11 | tags[6] << 5 | tags[7];
        sender.typed(PI, type, five, c, d);
    }

    private static void tags() {
        TEST.about("15: TAGS");
        Sender sender = Sender.synced(PI);
        sendOda(sender, 22, 0, AID);
        dueTags(sender, 0);
        int[][] rows = {{1, 0, 63, 0, 63, 0, 63, 0}, {0, 1, 0, 63, 0, 63, 0, 31},
                {1, 1, 37, 21, 42, 41, 52, 19}, {0, 0, 0, 0, 0, 0, 0, 0}};
        for (int i = 0; i < rows.length; i++) {
            sendTags(sender, 22, rows[i]);
            dueTags(sender, i + 1, rows[i]);
        }
    }

    private static void tagsNeedTheOda() {
        TEST.about("15: no TAGS without the ODA");
        Sender sender = Sender.synced(PI);
        sendTags(sender, 22, 1, 1, 1, 1, 1, 1, 1, 1);
        sendOda(sender, 22, 0, AID + 1);
        sendTags(sender, 22, 1, 1, 1, 1, 1, 1, 1, 1);
        sendOda(sender, 24, 0, AID);
        sendTags(sender, 22, 1, 1, 1, 1, 1, 1, 1, 1);
        dueTags(sender, 0);
        sendTags(sender, 24, 1, 1, 1, 1, 1, 1, 1, 1);
        dueTags(sender, 1, 1, 1, 1, 1, 1, 1, 1, 1);
        TEST.about("15: the ODA tells another type");
        sendOda(sender, 26, 0, AID);
        sendTags(sender, 24, 0, 0, 2, 2, 2, 2, 2, 2);
        dueTags(sender, 1, 1, 1, 1, 1, 1, 1, 1, 1);
        sendTags(sender, 26, 0, 0, 2, 2, 2, 2, 2, 2);
        dueTags(sender, 2, 0, 0, 2, 2, 2, 2, 2, 2);
        TEST.about("15: the ODA is no longer among the eight, but the TAGS stay");
        for (int i = 0; i < 8; i++) {
            sendOda(sender, 30, 0, i);
        }
        sendTags(sender, 26, 1, 1, 3, 3, 3, 3, 3, 3);
        dueTags(sender, 2, 0, 0, 2, 2, 2, 2, 2, 2);
    }

    private static void tagsNeedVersionA() {
        TEST.about("15: A alone");
        Sender sender = Sender.synced(PI);
        sendOda(sender, 23, 0, AID);
        sender.typed(PI, 23, 8, PI, 0x1234);
        sender.typed(PI, 22, 8, 0x1234, 0x1234);
        dueTags(sender, 0);
        sendOda(sender, 22, 0, AID);
        sender.typed(PI, 23, 8, PI, 0x1234);
        dueTags(sender, 0);
    }

    private static void tagsNeedBlocks() {
        TEST.about("15: C and D");
        Sender sender = Sender.synced(PI);
        sendOda(sender, 22, 0, AID);
        sender.typed(PI, 22, 8, R, 0x1234);
        sender.typed(PI, 22, 8, 0x1234, R);
        dueTags(sender, 0);
    }

    private static void tagsAndTheTypesOwn() {
        TEST.about("15: TAGS, and what the type tells, too");
        Sender sender = Sender.synced(PI);
        sendOda(sender, 4, 0, AID);
        sender.typed(PI, 4, 0, 0x410D, 0x4142);
        TEST.due("reports(5)", sender.desk.reports(5), 1);
        TEST.due("reports(1)", sender.desk.reports(1), 1);
        sendOda(sender, 0, 0, AID);
        sender.typed(PI, 0, 0b11011, 225 << 8 | 9, 0x4142);
        TEST.due("reports(5)", sender.desk.reports(5), 2);
        TEST.due("reports(3)", sender.desk.reports(3), 1);
        TEST.due("marks(0)", sender.desk.marks(0), 8);
        TEST.due("tag(1)", sender.desk.tag(1), 1);
    }

    private static void tagsAheadOfANewOda() {
        TEST.about("15: 3A bears TAGS by the ODA that was there ahead of it");
        Sender sender = Sender.synced(PI);
        sendOda(sender, 6, 0, AID);
        TEST.due("reports(5)", sender.desk.reports(5), 0);
        sendOda(sender, 22, 0, AID);
        TEST.due("reports(5)", sender.desk.reports(5), 1);
        TEST.due("oda(0, 1)", sender.desk.oda(0, 1), 22);
        sendOda(sender, 6, 0, AID);
        TEST.due("reports(5)", sender.desk.reports(5), 1);
    }

    /** "ABCDEFG", and the ODA that tells 11A. */
    private static Sender withText() {
        Sender sender = Sender.synced(PI);
        sendOda(sender, 22, 0, AID);
        sender.typed(PI, 4, 0, 0x4142, 0x4344);
        sender.typed(PI, 4, 1, 0x4546, 0x470D);
        return sender;
    }

    private static void duePiece(Sender sender, int what, String want) {
        TEST.due("letter(" + what + ", -1)", sender.desk.letter(what, -1), -1);
        for (int k = 0; k < want.length(); k++) {
            TEST.due("letter(" + what + ", " + k + ")", sender.desk.letter(what, k), want.charAt(k));
        }
        TEST.due("letter(" + what + ", " + want.length() + ")", sender.desk.letter(what, want.length()), -1);
    }

    private static void pieces() {
        TEST.about("10: a TAG's piece");
        Sender sender = withText();
        duePiece(sender, 3, "");
        duePiece(sender, 4, "");
        sendTags(sender, 22, 0, 0, 1, 0, 2, 4, 4, 1);
        duePiece(sender, 3, "ABC");
        duePiece(sender, 4, "EF");
        TEST.about("10: one byte; as far as it goes");
        sendTags(sender, 22, 0, 0, 1, 6, 0, 4, 5, 31);
        duePiece(sender, 3, "G");
        duePiece(sender, 4, "FG");
        TEST.about("10: behind the TEXT");
        sendTags(sender, 22, 0, 0, 1, 7, 0, 4, 63, 31);
        duePiece(sender, 3, "");
        duePiece(sender, 4, "");
        TEST.about("10: type 0 has none");
        sendTags(sender, 22, 0, 0, 0, 0, 3, 1, 0, 3);
        duePiece(sender, 3, "");
        duePiece(sender, 4, "ABCD");
        sendTags(sender, 22, 0, 0, 8, 0, 3, 0, 0, 3);
        duePiece(sender, 3, "ABCD");
        duePiece(sender, 4, "");
        int[] wrong = {Integer.MAX_VALUE, Integer.MIN_VALUE, -64};
        for (int k : wrong) {
            TEST.due("letter(3, " + k + ")", sender.desk.letter(3, k), -1);
        }
    }

    private static void piecesOfTheTextAsItIs() {
        TEST.about("10: of the TEXT as it is when it is asked");
        Sender sender = withText();
        sendTags(sender, 22, 0, 0, 1, 1, 3, 4, 0, 0);
        duePiece(sender, 3, "BCDE");
        sender.typed(PI, 4, 0, 0x5758, 0x0D59);
        duePiece(sender, 3, "X");
        duePiece(sender, 4, "W");
    }

    private static void wrongTags() {
        TEST.about("15: another what");
        Sender sender = withText();
        sendTags(sender, 22, 1, 1, 1, 1, 1, 1, 1, 1);
        int[] wrong = {-1, 8, Integer.MAX_VALUE, Integer.MIN_VALUE};
        for (int what : wrong) {
            TEST.due("tag(" + what + ")", sender.desk.tag(what), -1);
        }
    }
}
