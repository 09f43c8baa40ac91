/** Promises 16 and 17: other and otherLetter. */
public final class OthersTest {
    private static final Due TEST = new Due("OthersTest");
    private static final int R = Sender.RUINED;
    private static final int PI = 7;

    public static void main(String[] args) {
        variants();
        variantsThatTellNothing();
        trafficOfBothVersions();
        needsBlocks();
        names();
        namesApart();
        comesAgain();
        oldestGoes();
        wrongArguments();
        TEST.end();
    }

    private static void send(Sender sender, int tp, int variant, int c, int pi) {
        sender.typed(PI, 28, tp << 4 | variant, c, pi);
    }

    private static void due(Sender sender, int k, int... wants) {
        for (int what = 0; what < wants.length; what++) {
            TEST.due("other(" + k + ", " + what + ")", sender.desk.other(k, what), wants[what]);
        }
    }

    private static void dueName(Sender sender, int k, String want) {
        TEST.due("otherLetter(" + k + ", -1)", sender.desk.otherLetter(k, -1), -1);
        for (int i = 0; i < want.length(); i++) {
            TEST.due("otherLetter(" + k + ", " + i + ")", sender.desk.otherLetter(k, i), want.charAt(i));
        }
        TEST.due("otherLetter(" + k + ", " + want.length() + ")", sender.desk.otherLetter(k, want.length()), -1);
    }

    private static void variants() {
        TEST.about("16: variants");
        Sender sender = Sender.synced(PI);
        send(sender, 1, 4, 0xE105, 0xBEEF);
        due(sender, 0, 0xBEEF, 1, -1, -1, -1, -1, 0xE105, -1, -1, -1, -1, 0, -1);
        for (int v = 5; v <= 8; v++) {
            send(sender, 0, v, 0x1000 + v, 0xBEEF);
        }
        due(sender, 0, 0xBEEF, 0, -1, -1, -1, -1, 0xE105, 0x1005, 0x1006, 0x1007, 0x1008, 0, -1);
        send(sender, 0, 12, 0xFFFF, 0xBEEF);
        send(sender, 0, 13, 0xF7FE, 0xBEEF);
        due(sender, 0, 0xBEEF, 0, 30, 0, -1, 0xFFFF);
        send(sender, 0, 13, 0x0801, 0xBEEF);
        send(sender, 0, 14, 0xABCD, 0xBEEF);
        due(sender, 0, 0xBEEF, 0, 1, 1, 0xABCD, 0xFFFF, 0xE105, 0x1005, 0x1006, 0x1007, 0x1008, 0, -1);
        TEST.about("16: the own programme has none of it");
        for (int what = 3; what <= 9; what++) {
            TEST.due("programme(" + what + ")", sender.desk.programme(what), -1);
        }
        TEST.due("reports(3)", sender.desk.reports(3), 0);
    }

    private static void variantsThatTellNothing() {
        int[] variants = {9, 10, 11, 15};
        for (int v : variants) {
            TEST.about("16: variant " + v);
            Sender sender = Sender.synced(PI);
            send(sender, 1, v, 0x1234, 8);
            due(sender, 0, 8, 1, -1, -1, -1, -1, -1, -1, -1, -1, -1, 0, -1);
        }
    }

    private static void trafficOfBothVersions() {
        TEST.about("16: 14B");
        Sender sender = Sender.synced(PI);
        sender.typed(PI, 29, 0b11000, PI, 8);
        due(sender, 0, 8, 1, -1, 1, -1, -1, -1, -1, -1, -1, -1, 0);
        sender.typed(PI, 29, 0b00111, PI, 8);
        due(sender, 0, 8, 0, -1, 0, -1, -1, -1, -1, -1, -1, -1, 0);
        sender.typed(PI, 29, 0b01111, R, 8);
        due(sender, 0, 8, 0, -1, 1);
        TEST.about("16: 14B tells no variant");
        sender.typed(PI, 29, 0b01110, PI, 8);
        due(sender, 0, 8, 0, -1, 1, -1, -1, -1, -1, -1, -1, -1, 0);
        TEST.about("16: 14A's b3 is no TA");
        send(sender, 1, 12, 1, 8);
        send(sender, 1, 0, 1, 8);
        due(sender, 0, 8, 1, -1, 1, -1, 1);
    }

    private static void needsBlocks() {
        TEST.about("16: D tells which one; without C the TP alone");
        Sender sender = Sender.synced(PI);
        send(sender, 1, 14, 5, R);
        sender.typed(PI, 29, 31, PI, R);
        due(sender, 0, -1, -1);
        send(sender, 1, 14, R, 8);
        due(sender, 0, 8, 1, -1, -1, -1, -1, -1, -1, -1, -1, -1, 0);
        for (int v = 0; v < 16; v++) {
            send(sender, 1, v, R, 8);
        }
        due(sender, 0, 8, 1, -1, -1, -1, -1, -1, -1, -1, -1, -1, 0);
        TEST.about("16: one of PI 0, and one of the own PI");
        send(sender, 0, 14, 6, 0);
        send(sender, 0, 14, 9, PI);
        due(sender, 1, 0, 0, -1, -1, 6);
        due(sender, 2, PI, 0, -1, -1, 9);
    }

    private static void sendName(Sender sender, int pi, int v, String piece) {
        send(sender, 0, v, piece.charAt(0) << 8 | piece.charAt(1), pi);
    }

    private static void names() {
        TEST.about("17: NAME of an OTHER");
        Sender sender = Sender.synced(PI);
        sendName(sender, 8, 3, "\u00ff\u0000");
        sendName(sender, 8, 1, "C\r");
        sendName(sender, 8, 0, "AB");
        dueName(sender, 0, "");
        due(sender, 0, 8, 0, -1, -1, -1, -1, -1, -1, -1, -1, -1, 0);
        sendName(sender, 8, 2, "EF");
        dueName(sender, 0, "ABC\rEF\u00ff\u0000");
        TEST.due("other(0, 11)", sender.desk.other(0, 11), 1);
        TEST.due("reports(0)", sender.desk.reports(0), 0);
        TEST.about("17: a MARKED PIECE with other bytes");
        for (int v = 0; v < 3; v++) {
            sendName(sender, 8, v, "xx");
        }
        sendName(sender, 8, 1, "xy");
        sendName(sender, 8, 3, "zz");
        TEST.due("other(0, 11)", sender.desk.other(0, 11), 1);
        sendName(sender, 8, 0, "00");
        sendName(sender, 8, 2, "22");
        TEST.due("other(0, 11)", sender.desk.other(0, 11), 2);
        dueName(sender, 0, "00xy22zz");
    }

    private static void namesApart() {
        TEST.about("17: each OTHER has its own DRAFT");
        Sender sender = Sender.synced(PI);
        for (int v = 0; v < 4; v++) {
            sendName(sender, 8, v, "ABCDEFGH".substring(2 * v));
            sendName(sender, 9, v, "abcdefgh".substring(2 * v));
        }
        dueName(sender, 0, "ABCDEFGH");
        dueName(sender, 1, "abcdefgh");
        TEST.due("marks(0)", sender.desk.marks(0), 0);
    }

    private static void comesAgain() {
        TEST.about("16: one that is there stays where it is");
        Sender sender = Sender.synced(PI);
        send(sender, 0, 14, 1, 8);
        send(sender, 0, 14, 2, 9);
        send(sender, 1, 12, 3, 8);
        due(sender, 0, 8, 1, -1, -1, 1, 3);
        due(sender, 1, 9, 0, -1, -1, 2, -1);
        due(sender, 2, -1, -1, -1, -1, -1, -1, -1, -1, -1, -1, -1, -1);
    }

    private static void oldestGoes() {
        TEST.about("16: eight, and the ninth");
        Sender sender = Sender.synced(PI);
        for (int v = 0; v < 4; v++) {
            sendName(sender, 101, v, "AB");
        }
        sendName(sender, 101, 0, "CD");
        for (int i = 1; i <= 8; i++) {
            send(sender, 1, 14, i, 100 + i);
        }
        send(sender, 1, 12, 77, 101);
        due(sender, 0, 101, 1, -1, -1, 1, 77, -1, -1, -1, -1, -1, 1);
        due(sender, 7, 108, 1, -1, -1, 8);
        sender.typed(PI, 29, 0, PI, 109);
        for (int k = 0; k < 7; k++) {
            due(sender, k, 102 + k, 1, -1, -1, 2 + k, -1);
        }
        TEST.about("17: the new one has nothing of the one that went");
        due(sender, 7, 109, 0, -1, 0, -1, -1, -1, -1, -1, -1, -1, 0);
        dueName(sender, 7, "");
        for (int v = 1; v < 4; v++) {
            sendName(sender, 109, v, "EF");
        }
        dueName(sender, 7, "");
        sendName(sender, 109, 0, "GH");
        dueName(sender, 7, "GHEFEFEF");
        TEST.about("16: one that went comes as a new one");
        send(sender, 0, 4, 5, 101);
        due(sender, 7, 101, 0, -1, -1, -1, -1, 5, -1, -1, -1, -1, 0);
        due(sender, 0, 103, 1, -1, -1, 3);
        dueName(sender, 6, "GHEFEFEF");
        due(sender, 8, -1, -1);
    }

    private static void wrongArguments() {
        TEST.about("16, 17: wrong arguments");
        Sender sender = Sender.filled(PI);
        int[] wrong = {-1, 12, Integer.MAX_VALUE, Integer.MIN_VALUE};
        for (int x : wrong) {
            for (int what = 0; what <= 11; what++) {
                TEST.due("other(" + x + ", " + what + ")", sender.desk.other(x, what), -1);
            }
            TEST.due("other(0, " + x + ")", sender.desk.other(0, x), -1);
            TEST.due("otherLetter(" + x + ", 0)", sender.desk.otherLetter(x, 0), -1);
            TEST.due("otherLetter(0, " + x + ")", sender.desk.otherLetter(0, x), -1);
        }
        TEST.due("otherLetter(1, 0)", sender.desk.otherLetter(1, 0), -1);
        TEST.due("otherLetter(0, 8)", sender.desk.otherLetter(0, 8), -1);
        TEST.due("otherLetter(0, 7)", sender.desk.otherLetter(0, 7), 0x42);
    }
}
