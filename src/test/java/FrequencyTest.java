/** Promise 12: frequency; and promise 9's REPORTS of the LIST. */
public final class FrequencyTest {
    private static final Due TEST = new Due("FrequencyTest");
    private static final int R = Sender.RUINED;
    private static final int PI = 7;

    public static void main(String[] args) {
        emptyList();
        veryHighWaves();
        lowWaves();
        lowWavesTakeAnyByte();
        bytesOutsideAList();
        newListInsteadOfTheOldOne();
        longestList();
        finishedListStays();
        needsBlockTwo();
        wrongArguments();
        TEST.end();
    }

    /** Two bytes a group; a last one that stands alone gets a 205 behind it, which is nothing. */
    private static Sender sent(int... bytes) {
        return send(Sender.synced(PI), bytes);
    }

    private static Sender send(Sender sender, int... bytes) {
        for (int i = 0; i < bytes.length; i += 2) {
            int second = i + 1 < bytes.length ? bytes[i + 1] : 205;
            sender.typed(PI, 0, 0, bytes[i] << 8 | second, 0x4142);
        }
        return sender;
    }

    private static void due(Sender sender, int reports, int... wants) {
        TEST.due("reports(3)", sender.desk.reports(3), reports);
        TEST.due("frequency(-1)", sender.desk.frequency(-1), -1);
        for (int k = 0; k < wants.length; k++) {
            TEST.due("frequency(" + k + ")", sender.desk.frequency(k), wants[k]);
        }
        TEST.due("frequency(" + wants.length + ")", sender.desk.frequency(wants.length), -1);
    }

    private static void emptyList() {
        TEST.about("12: a list of none is there at once");
        due(sent(224), 1);
        due(sent(224, 9), 1);
        due(sent(224, 224, 224, 9), 3);
        due(sent(225, 9, 224), 2);
    }

    private static void veryHighWaves() {
        TEST.about("12: very high waves");
        due(sent(226, 1, 204), 1, 87600, 107900);
        TEST.about("12: 205 is nothing");
        due(sent(226, 205, 1, 205, 205, 204), 1, 87600, 107900);
        TEST.about("12: others are 0");
        due(sent(231, 0, 206, 223, 251, 252, 255, 100), 1, 0, 0, 0, 0, 0, 0, 97500);
        TEST.about("12: not ahead of as many as it says");
        due(sent(227, 1, 204), 0);
    }

    private static void lowWaves() {
        TEST.about("12: low waves");
        due(sent(228, 250, 1, 250, 15, 250, 16, 250, 135), 1, 153, 279, 531, 1602);
        due(sent(226, 250, 0, 250, 136), 1, 0, 0);
        due(sent(226, 1, 250, 2), 1, 87600, 162);
        TEST.about("12: 250 alone is none yet");
        due(sent(225, 250), 0);
    }

    private static void lowWavesTakeAnyByte() {
        TEST.about("12: the byte behind 250, whichever it is");
        due(sent(226, 250, 224, 1), 1, 0, 87600);
        due(sent(226, 250, 249, 1), 1, 0, 87600);
        due(sent(226, 250, 250, 1), 1, 0, 87600);
        due(sent(226, 250, 205, 1), 1, 0, 87600);
        due(sent(225, 250, 205, 1), 1, 0);
        TEST.about("12: of a later GROUP, others between");
        Sender sender = sent(225, 250);
        sender.typed(PI, 2, 0, 0x1234, 0x5678);
        sender.typed(PI, 0, 0, R, 0x5678);
        sender.typed(PI, 1, 0, PI, 0x5678);
        due(sender, 0);
        send(sender, 17);
        due(sender, 1, 540);
    }

    private static void bytesOutsideAList() {
        TEST.about("12: no list under way");
        due(sent(1, 2, 0, 255), 0);
        due(sent(225, 9, 10, 11), 1, 88400);
        TEST.about("12: a 250 then is nothing");
        due(sent(250, 225, 9), 1, 88400);
        due(sent(225, 9, 250, 226, 10, 11), 2, 88500, 88600);
    }

    private static void newListInsteadOfTheOldOne() {
        TEST.about("12: the list under way is gone");
        due(sent(227, 1, 2, 226, 3, 4), 1, 87800, 87900);
        due(sent(227, 1, 2, 225, 3, 4), 1, 87800);
        due(sent(226, 1, 226, 3), 0);
        due(sent(249, 224, 1), 1);
    }

    private static void longestList() {
        TEST.about("12: twenty five");
        int[] bytes = new int[26];
        int[] wants = new int[25];
        bytes[0] = 249;
        for (int i = 1; i <= 25; i++) {
            bytes[i] = 8 * i;
            wants[i - 1] = 87500 + 800 * i;
        }
        due(sent(bytes), 1, wants);
    }

    private static void finishedListStays() {
        TEST.about("12: the LIST stays until the next one is there");
        Sender sender = sent(226, 1, 2, 227, 5, 6);
        due(sender, 1, 87600, 87700);
        send(sender, 7);
        due(sender, 2, 88000, 88100, 88200);
        send(sender, 225, 8);
        due(sender, 3, 88300);
    }

    private static void needsBlockTwo() {
        TEST.about("12: 0A alone, with C");
        Sender sender = Sender.synced(PI);
        sender.typed(PI, 1, 0, 225 << 8 | 9, 0x4142);
        due(sender, 0);
        sender.typed(PI, 0, 0, R, 225 << 8 | 9);
        due(sender, 0);
        sender.typed(PI, 0, 0, 225 << 8 | 9, R);
        due(sender, 1, 88400);
    }

    private static void wrongArguments() {
        TEST.about("12: no such k");
        Sender sender = sent(225, 1);
        int[] wrong = {-1, 1, 25, 26, Integer.MAX_VALUE, Integer.MIN_VALUE};
        for (int k : wrong) {
            TEST.due("frequency(" + k + ")", sender.desk.frequency(k), -1);
        }
    }
}
