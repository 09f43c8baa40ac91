/** Edges of the Term TAGS, and of promise 15. */
final class TagEdges {
    private static final int R = Sender.RUINED;
    private static final int PI = 7;
    private static final int AID = 19415;
    private static final int[] ONES = {1, 1, 1, 1, 1, 1, 1, 1};

    private TagEdges() {
    }

    static void run(Edges t) {
        odaTells(t);
        amongTheEight(t);
        versionA(t);
        bothKnown(t);
        whatIsToldAboveToo(t);
        layout(t);
        piece(t);
        pieceOfTheTextAsItIs(t);
        asFarAsItGoes(t);
        typeZero(t);
        whats(t);
        withoutAny(t);
    }

    private static void sendOda(Sender sender, int type, int aid) {
        sender.typed(PI, 6, type, 0, aid);
    }

    /** The bits of two TAGS: toggle, running, then type, begin and more of each. */
    private static void sendTags(Sender sender, int type, int... tags) {
        int five = tags[0] << 4 | tags[1] << 3 | tags[2] >> 3;
        int c = (tags[2] & 7) << 13 | tags[3] << 7 | tags[4] << 1 | tags[5] >> 5;
        int d = (tags[5] & 31) << 11 | tags[6] << 5 | tags[7];
        sender.typed(PI, type, five, c, d);
    }

    private static void odaTells(Edges t) {
        t.edge(15, "A TYPE and version that the ODA of AID 19415");
        for (int type = 0; type < 32; type += 2) {
            for (int sent = 0; sent < 32; sent += 2) {
                Sender sender = Sender.synced(PI);
                sendOda(sender, type, AID);
                // A 3A that tells 3A bears none itself: the ODA was not there ahead of it.
                t.tags(sender, 0);
                sendTags(sender, sent, ONES);
                t.reports(sender, 5, sent == type ? 1 : 0);
            }
        }
        int[] aids = {AID - 1, AID + 1, 0, 0xFFFF, AID ^ 0x8000};
        for (int aid : aids) {
            Sender sender = Sender.synced(PI);
            sendOda(sender, 22, aid);
            sendTags(sender, 22, ONES);
            t.tags(sender, 0);
        }
        // It tells another one now.
        Sender sender = Sender.synced(PI);
        sendOda(sender, 22, AID);
        sendOda(sender, 24, AID);
        sendTags(sender, 22, ONES);
        t.tags(sender, 0);
        sendTags(sender, 24, ONES);
        t.tags(sender, 1, ONES);
    }

    private static void amongTheEight(Edges t) {
        t.edge(15, "(if it is among the eight) tells,");
        Sender sender = Sender.synced(PI);
        sendTags(sender, 22, ONES);
        t.tags(sender, 0);
        sendOda(sender, 22, AID);
        for (int i = 1; i <= 7; i++) {
            sendOda(sender, 30, i);
        }
        sendTags(sender, 22, ONES);
        t.tags(sender, 1, ONES);
        // The eighth other one: it goes, and what TAGS told stays.
        sendOda(sender, 30, 8);
        sendTags(sender, 22, 0, 0, 2, 2, 2, 2, 2, 2);
        t.tags(sender, 1, ONES);
        sendOda(sender, 22, AID);
        sendTags(sender, 22, 0, 0, 2, 2, 2, 2, 2, 2);
        t.tags(sender, 2, 0, 0, 2, 2, 2, 2, 2, 2);
        // It may be the last one of the eight.
        sender = Sender.synced(PI);
        for (int i = 1; i <= 7; i++) {
            sendOda(sender, 30, i);
        }
        sendOda(sender, 22, AID);
        sendTags(sender, 22, ONES);
        t.tags(sender, 1, ONES);
    }

    private static void versionA(Edges t) {
        t.edge(15, "A alone,");
        for (int type = 0; type < 32; type += 2) {
            for (int version = 0; version <= 1; version++) {
                Sender sender = Sender.synced(PI);
                sendOda(sender, type + version, AID);
                sender.typed(PI, type + 1, 9, PI, 0x1234);
                t.tags(sender, 0);
                if (version == 1) {
                    sender.typed(PI, type, 9, PI, 0x1234);
                    t.tags(sender, 0);
                }
            }
        }
    }

    private static void bothKnown(Edges t) {
        t.edge(15, "C and D known: TAGS (3),");
        Sender sender = Sender.synced(PI);
        sendOda(sender, 22, AID);
        sender.typed(PI, 22, 9, R, 0x1234);
        sender.typed(PI, 22, 9, 0x1234, R);
        sender.typed(PI, 22, 9, R, R);
        t.tags(sender, 0);
        sender.typed(PI, 22, 0, 0, 0);
        t.tags(sender, 1, 0, 0, 0, 0, 0, 0, 0, 0);
        sender.typed(PI, 22, 9, R, 0x1234);
        sender.typed(PI, 22, 9, 0x1234, R);
        t.tags(sender, 1, 0, 0, 0, 0, 0, 0, 0, 0);
    }

    private static void whatIsToldAboveToo(Edges t) {
        t.edge(15, "and then what is told above, too, if it is one of those.");
        int[] types = {0, 2, 4, 6, 8, 20, 28};
        for (int type : types) {
            Sender sender = Sender.synced(PI);
            sendOda(sender, type, AID);
            sender.typed(PI, type, 0b00101, 0x00E1, 0x0005);
            t.tags(sender, 1, 0, 0, 40, 1, 48, 32, 0, 5);
            t.programme(sender, 5, type == 0 ? 4 : -1);
            t.marks(sender, 0, type == 0 ? 2 : 0);
            t.programme(sender, 6, type == 2 ? 5 : -1);
            t.programme(sender, 7, type == 2 ? 0xE1 : -1);
            t.marks(sender, 1, type == 4 ? 32 : 0);
            t.oda(sender, 1, type == 6 ? new int[] {5, 5, 0xE1} : new int[0]);
            t.reports(sender, 4, type == 8 ? 1 : 0);
            t.marks(sender, 2, type == 20 ? 2 : 0);
            t.other(sender, 0, type == 28 ? new int[] {5, 0, -1, -1, -1, -1, -1, 0xE1} : new int[0]);
        }
        // 'And then': a 3A that takes the ODA elsewhere still bears TAGS, the next one does not.
        Sender sender = Sender.synced(PI);
        sendOda(sender, 6, AID);
        t.reports(sender, 5, 0);
        sendOda(sender, 22, AID);
        t.reports(sender, 5, 1);
        t.oda(sender, 0, AID, 22, 0);
        sendOda(sender, 6, AID);
        t.reports(sender, 5, 1);
    }

    private static void layout(Edges t) {
        t.edge(15, "TAGS: toggle b4, running b3 of BLOCK 1; the first one's type: its b2 b1 b0, b15 b14 b13 of C; "
                + "begin: b12 .. b7, more: b6 .. b1 of C; the second one's type: b0 of C, b15 .. b11 of D; "
                + "begin b10 .. b5, more b4 .. b0.");
        // The most of each, the others 0; then the other way round.
        int[] most = {1, 1, 63, 63, 63, 63, 63, 31};
        Sender sender = Sender.synced(PI);
        sendOda(sender, 22, AID);
        for (int i = 0; i < 8; i++) {
            int[] alone = new int[8];
            alone[i] = most[i];
            sendTags(sender, 22, alone);
            t.tags(sender, 2 * i + 1, alone);
            int[] others = most.clone();
            others[i] = 0;
            sendTags(sender, 22, others);
            t.tags(sender, 2 * i + 2, others);
        }
        // The highest and the lowest bit of each.
        sendTags(sender, 22, 1, 0, 32, 1, 32, 1, 32, 1);
        t.tags(sender, 17, 1, 0, 32, 1, 32, 1, 32, 1);
        sendTags(sender, 22, 0, 1, 1, 32, 1, 32, 1, 16);
        t.tags(sender, 18, 0, 1, 1, 32, 1, 32, 1, 16);
    }

    /** A TEXT, and the ODA that tells 11A; up to 63 letters and a 13. */
    private static Sender withText(String text) {
        Sender sender = Sender.synced(PI);
        sendOda(sender, 22, AID);
        sendText(sender, text);
        return sender;
    }

    private static void sendText(Sender sender, String text) {
        String all = text.length() == 64 ? text : text + "\r\r\r\r";
        for (int s = 0; 4 * s <= text.length() && s < 16; s++) {
            sender.typed(PI, 4, s, all.charAt(4 * s) << 8 | all.charAt(4 * s + 1),
                    all.charAt(4 * s + 2) << 8 | all.charAt(4 * s + 3));
        }
    }

    private static String longText() {
        StringBuilder text = new StringBuilder();
        for (int i = 0; i < 64; i++) {
            text.append((char) (192 + i));
        }
        return text.toString();
    }

    private static void piece(Edges t) {
        t.edge(10, "A TAG's piece is what the TEXT (as it is when it is asked) has from begin on, more and one bytes,");
        Sender sender = withText("ABCDEFG");
        sendTags(sender, 22, 0, 0, 1, 0, 0, 1, 6, 0);
        t.letters(sender, 3, "A");
        t.letters(sender, 4, "G");
        sendTags(sender, 22, 0, 0, 63, 1, 2, 63, 3, 3);
        t.letters(sender, 3, "BCD");
        t.letters(sender, 4, "DEFG");
        // All 64 bytes, and the last one; 32 bytes are the most of the second one.
        String all = longText();
        sender = withText(all);
        sendTags(sender, 22, 0, 0, 32, 0, 63, 32, 32, 31);
        t.letters(sender, 3, all);
        t.letters(sender, 4, all.substring(32));
        sendTags(sender, 22, 0, 0, 8, 63, 0, 1, 31, 31);
        t.letters(sender, 3, all.substring(63));
        t.letters(sender, 4, all.substring(31, 63));
    }

    private static void pieceOfTheTextAsItIs(Edges t) {
        t.edge(10, "(as it is when it is asked)");
        Sender sender = withText("ABCDEFG");
        sendTags(sender, 22, 0, 0, 1, 1, 3, 4, 0, 0);
        t.letters(sender, 3, "BCDE");
        t.letters(sender, 4, "A");
        sendText(sender, "WX");
        t.letters(sender, 3, "X");
        t.letters(sender, 4, "W");
        sendText(sender, "");
        t.letters(sender, 3, "");
        t.letters(sender, 4, "");
        sendText(sender, "abcdefghi");
        t.letters(sender, 3, "bcde");
        // Without a TEXT there is nothing yet; then there is.
        sender = Sender.synced(PI);
        sendOda(sender, 22, AID);
        sendTags(sender, 22, 0, 0, 1, 0, 3, 4, 0, 0);
        t.letters(sender, 3, "");
        sendText(sender, "AB");
        t.letters(sender, 3, "AB");
    }

    private static void asFarAsItGoes(Edges t) {
        t.edge(10, "as far as it goes");
        Sender sender = withText("ABCDEFG");
        sendTags(sender, 22, 0, 0, 1, 5, 1, 1, 5, 2);
        t.letters(sender, 3, "FG");
        t.letters(sender, 4, "FG");
        sendTags(sender, 22, 0, 0, 1, 6, 63, 1, 0, 31);
        t.letters(sender, 3, "G");
        t.letters(sender, 4, "ABCDEFG");
        // From the very end on, and far behind it.
        sendTags(sender, 22, 0, 0, 1, 7, 0, 1, 63, 31);
        t.letters(sender, 3, "");
        t.letters(sender, 4, "");
        sender = withText(longText());
        sendTags(sender, 22, 0, 0, 1, 63, 63, 1, 63, 31);
        t.letters(sender, 3, "\u00ff");
        t.letters(sender, 4, "\u00ff");
        // A k that would come round to a byte of it.
        int[] wrong = {-1, -63, Integer.MIN_VALUE, Integer.MIN_VALUE + 1, Integer.MAX_VALUE, Integer.MAX_VALUE - 62};
        for (int k : wrong) {
            t.due("letter(3, " + k + ")", sender.desk.letter(3, k), -1);
            t.due("letter(4, " + k + ")", sender.desk.letter(4, k), -1);
        }
    }

    private static void typeZero(Edges t) {
        t.edge(10, "(none of type 0).");
        Sender sender = withText("ABCDEFG");
        sendTags(sender, 22, 1, 1, 0, 0, 3, 1, 0, 3);
        t.letters(sender, 3, "");
        t.letters(sender, 4, "ABCD");
        sendTags(sender, 22, 1, 1, 1, 0, 3, 0, 0, 3);
        t.letters(sender, 3, "ABCD");
        t.letters(sender, 4, "");
        // But what such a TAG tells is told.
        t.tags(sender, 2, 1, 1, 1, 0, 3, 0, 0, 3);
    }

    private static void whats(Edges t) {
        t.edge(15, "Of TAGS: 0 toggle, 1 running, 2 .. 4 type, begin, more of the first one, 5 .. 7 of the second one.");
        Sender sender = Sender.synced(PI);
        sendOda(sender, 22, AID);
        sendTags(sender, 22, 1, 0, 63, 62, 61, 60, 59, 31);
        t.tags(sender, 1, 1, 0, 63, 62, 61, 60, 59, 31);
        sendTags(sender, 22, 0, 1, 0, 1, 2, 3, 4, 5);
        t.tags(sender, 2, 0, 1, 0, 1, 2, 3, 4, 5);
    }

    private static void withoutAny(Edges t) {
        t.edge(15, "NONE without any, and for another what.");
        t.tags(new Sender(), 0);
        Sender sender = Sender.synced(PI);
        sendOda(sender, 22, AID);
        t.tags(sender, 0);
        sendTags(sender, 22, 0, 0, 0, 0, 0, 0, 0, 0);
        t.tags(sender, 1, 0, 0, 0, 0, 0, 0, 0, 0);
        int[] wrong = {-1, 8, 9, Integer.MIN_VALUE, Integer.MAX_VALUE};
        for (int what : wrong) {
            t.due("tag(" + what + ")", new RdsDesk().tag(what), -1);
            t.due("tag(" + what + ")", sender.desk.tag(what), -1);
        }
    }
}
