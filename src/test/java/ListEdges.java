import java.util.Arrays;

/** Edges of the Terms AF, ODAS and OTHERS, and of promises 12, 14, 16 and 17. */
final class ListEdges {
    private static final int R = Sender.RUINED;
    private static final int PI = 7;
    private static final int MIN = Integer.MIN_VALUE;
    private static final int MAX = Integer.MAX_VALUE;

    private ListEdges() {
    }

    static void run(Edges t) {
        inOrder(t);
        newListBegins(t);
        listUnderWayIsGone(t);
        othersCount(t);
        veryHighWaves(t);
        lowWaveOfTheNextByte(t);
        lowWaveOfALaterGroup(t);
        lowWaves(t);
        bothTogether(t);
        nothingAndZero(t);
        asManyAsItSays(t);
        notUnderWayThen(t);
        frequencyOfTheList(t);
        frequencyThatIsNotThere(t);
        odaThatIsThere(t);
        odaThatIsOneMore(t);
        oldestOdaGoes(t);
        odaWhats(t);
        odaThatIsNotThere(t);
        otherThatIsThere(t);
        oldestOtherGoes(t);
        eachHasItsOwn(t);
        otherWhats(t);
        otherHasNotCome(t);
        otherLetters(t);
        otherLetterThatIsNotThere(t);
    }

    // ---- AF

    private static Sender sent(int... bytes) {
        return send(Sender.synced(PI), bytes);
    }

    /** Two bytes a group; a last one that stands alone gets a 205 behind it, which is nothing. */
    private static Sender send(Sender sender, int... bytes) {
        for (int i = 0; i < bytes.length; i += 2) {
            sender.typed(PI, 0, 0, bytes[i] << 8 | (i + 1 < bytes.length ? bytes[i + 1] : 205), 0x4142);
        }
        return sender;
    }

    private static void inOrder(Edges t) {
        t.edge(12, "AF: bytes of a GROUP in order.");
        t.list(sent(225, 9), 1, 88400);
        t.list(sent(9, 225), 0);
        t.list(sent(9, 225, 10), 1, 88500);
        t.list(sent(228, 1, 2, 3, 4), 1, 87600, 87700, 87800, 87900);
    }

    /** A list of each count that can be told, the least and the most of them too. */
    private static void newListBegins(Edges t) {
        t.edge(12, "One of 224 .. 249: a new list of so many less 224 begins");
        for (int code = 224; code <= 249; code++) {
            int count = code - 224;
            int[] bytes = new int[count + 1];
            int[] wants = new int[count];
            bytes[0] = code;
            for (int i = 1; i <= count; i++) {
                bytes[i] = 8 * i;
                wants[i - 1] = 87500 + 800 * i;
            }
            t.list(sent(bytes), 1, wants);
            if (count > 0) {
                bytes[count] = 205;
                t.list(sent(bytes), 0);
            }
        }
        // The ones next to them begin none.
        int[] next = {223, 251, 255};
        for (int code : next) {
            t.list(sent(code, 9, 9, 9), 0);
            t.list(sent(226, code, 9), 1, 0, 88400);
        }
        t.list(sent(250, 9, 9, 9), 0);
        t.list(sent(226, 250, 9, 9), 1, 225, 88400);
    }

    private static void listUnderWayIsGone(Edges t) {
        t.edge(12, "(the one under way is gone).");
        t.list(sent(227, 1, 2, 226, 3, 4), 1, 87800, 87900);
        t.list(sent(226, 1, 226, 3), 0);
        t.list(sent(227, 1, 2, 225, 3, 4), 1, 87800);
        t.list(sent(249, 1, 224, 2), 1);
        t.list(sent(225, 9, 227, 1, 2, 224), 2);
    }

    private static void othersCount(Edges t) {
        t.edge(12, "Others count, while a list is under way and has less:");
        t.list(sent(1, 204, 0, 255, 250, 1), 0);
        t.list(sent(225, 9, 10, 11), 1, 88400);
        t.list(sent(224, 9, 10), 1);
        // A 250 without a list is nothing: the byte behind it may begin one.
        t.list(sent(250, 225, 9), 1, 88400);
        t.list(sent(225, 9, 250, 226, 10, 11), 2, 88500, 88600);
        t.list(sent(224, 250, 225, 9), 2, 88400);
    }

    private static void veryHighWaves(Edges t) {
        t.edge(12, "1 .. 204 is that times 100 and 87500 kHz;");
        for (int code = 1; code <= 204; code++) {
            t.list(sent(225, code), 1, 87500 + 100 * code);
        }
    }

    private static void lowWaveOfTheNextByte(Edges t) {
        t.edge(12, "250: the next byte (whichever it is, of a later GROUP too) is one of long or medium waves:");
        for (int code = 0; code <= 255; code++) {
            t.list(sent(226, 250, code, 1), 1, lowWave(code), 87600);
        }
    }

    private static int lowWave(int code) {
        return code >= 1 && code <= 15 ? 144 + 9 * code : code >= 16 && code <= 135 ? 387 + 9 * code : 0;
    }

    private static void lowWaveOfALaterGroup(Edges t) {
        t.edge(12, "250: the next byte (whichever it is, of a later GROUP too) is one of long or medium waves:");
        Sender sender = sent(225, 250);
        t.list(sender, 0);
        sender.typed(PI, 2, 0, 0x1234, 0x5678);
        sender.typed(PI, 0, 0, R, 0x5678);
        sender.typed(PI, 1, 0, PI, 0x5678);
        sender.typed(PI, 28, 4, 0x0101, 8);
        sender.group(PI, R, 0x0101, 0x5678);
        t.list(sender, 0);
        send(sender, 225, 9);
        t.list(sender, 1, 0);
        t.list(send(sent(226, 250), 226, 9), 1, 0, 88400);
    }

    private static void lowWaves(Edges t) {
        t.edge(12, "1 .. 15: 144 and 9 times it, 16 .. 135: 387 and 9 times it, others 0;");
        t.list(sent(228, 250, 1, 250, 15, 250, 16, 250, 135), 1, 153, 279, 531, 1602);
        t.list(sent(226, 250, 0, 250, 136), 1, 0, 0);
        t.list(sent(226, 250, 204, 250, 255), 1, 0, 0);
    }

    private static void bothTogether(Edges t) {
        t.edge(12, "both together are one;");
        t.list(sent(226, 250, 1), 0);
        t.list(sent(226, 250, 1, 2), 1, 153, 87700);
        t.list(sent(225, 250), 0);
        // Behind the two of them a byte is an ordinary one again.
        t.list(sent(227, 250, 250, 1, 250, 2), 1, 0, 87600, 162);
    }

    private static void nothingAndZero(Edges t) {
        t.edge(12, "205 is nothing; others are 0.");
        t.list(sent(226, 205, 1, 205, 205, 204), 1, 87600, 107900);
        t.list(sent(225, 205, 205, 205), 0);
        t.list(sent(225, 0), 1, 0);
        for (int code = 206; code <= 223; code++) {
            t.list(sent(225, code), 1, 0);
        }
        for (int code = 251; code <= 255; code++) {
            t.list(sent(225, code), 1, 0);
        }
    }

    private static void asManyAsItSays(Edges t) {
        t.edge(12, "As soon as it has as many as it says (0: at once), it is the LIST (REPORTS one more);");
        Sender sender = sent(224);
        t.list(sender, 1);
        t.list(sent(224, 224), 2);
        // It is the first byte of a GROUP that fills it: the second one is no longer of it.
        t.list(sent(226, 1, 2, 3), 1, 87600, 87700);
        sender = sent(227, 1);
        t.list(sender, 0);
        send(sender, 2);
        t.list(sender, 0);
        send(sender, 3);
        t.list(sender, 1, 87600, 87700, 87800);
        // Until the next one is there the LIST stays; then it has nothing of the longer one before it.
        send(sender, 226, 4);
        t.list(sender, 1, 87600, 87700, 87800);
        send(sender, 5);
        t.list(sender, 2, 87900, 88000);
        send(sender, 224);
        t.list(sender, 3);
    }

    private static void notUnderWayThen(Edges t) {
        t.edge(12, "it isn't under way then.");
        Sender sender = sent(225, 1);
        send(sender, 2, 3);
        t.list(sender, 1, 87600);
        int[] bytes = new int[26];
        Arrays.fill(bytes, 7);
        bytes[0] = 249;
        sender = sent(bytes);
        send(sender, 8, 9);
        send(sender, 250, 9);
        t.due("reports(3)", sender.desk.reports(3), 1);
        t.due("frequency(24)", sender.desk.frequency(24), 88200);
        t.due("frequency(25)", sender.desk.frequency(25), -1);
    }

    private static void frequencyOfTheList(Edges t) {
        t.edge(12, "Frequency k of the LIST in kHz (0 for what is none).");
        t.list(sent(229, 1, 0, 204, 255, 250, 136), 1, 87600, 0, 107900, 0, 0);
    }

    private static void frequencyThatIsNotThere(Edges t) {
        t.edge(12, "NONE if there is none such.");
        int[] wrong = {-1, 2, 24, 25, 26, MIN, MAX};
        Sender[] senders = {new Sender(), sent(226, 1, 2), sent(249, 1, 2), sent(224)};
        for (Sender sender : senders) {
            for (int k : wrong) {
                t.due("frequency(" + k + ")", sender.desk.frequency(k), -1);
            }
        }
        t.list(senders[1], 1, 87600, 87700);
        t.list(senders[2], 0);
    }

    // ---- ODAS

    private static void sendOda(Sender sender, int type, int c, int aid) {
        sender.typed(PI, 6, type, c, aid);
    }

    /** AIDS 101 .. 108, of type 1 .. 8, C from 201 on. */
    private static Sender eightOdas() {
        Sender sender = Sender.synced(PI);
        for (int i = 1; i <= 8; i++) {
            sendOda(sender, i, 200 + i, 100 + i);
        }
        return sender;
    }

    private static void odaThatIsThere(Edges t) {
        t.edge(14, "ODAS: at most 8: an AID that is there gets the new TYPE and version, and what C has;");
        for (int again = 1; again <= 8; again++) {
            Sender sender = eightOdas();
            sendOda(sender, 31, 0xFFFF, 100 + again);
            for (int i = 1; i <= 8; i++) {
                t.oda(sender, i - 1, 100 + i, i == again ? 31 : i, i == again ? 0xFFFF : 200 + i);
            }
            t.oda(sender, 8);
        }
        // The same AID of another type, or with another C, is no second one.
        Sender sender = Sender.synced(PI);
        sendOda(sender, 1, 1, 0);
        sendOda(sender, 2, 1, 0);
        t.oda(sender, 0, 0, 2, 1);
        sendOda(sender, 2, 3, 0);
        t.oda(sender, 0, 0, 2, 3);
        t.oda(sender, 1);
    }

    private static void odaThatIsOneMore(Edges t) {
        t.edge(14, "else it is one more");
        Sender sender = Sender.synced(PI);
        for (int i = 0; i < 8; i++) {
            t.oda(sender, i);
            // The same TYPE and C: the AID alone makes it another one.
            sendOda(sender, 22, 5, i);
            t.oda(sender, i, i, 22, 5);
            t.oda(sender, i + 1);
        }
    }

    private static void oldestOdaGoes(Edges t) {
        t.edge(14, "(with eight: the oldest one goes, by when they first came).");
        Sender sender = eightOdas();
        // The oldest one comes again, and is still the oldest one.
        sendOda(sender, 30, 300, 101);
        sendOda(sender, 9, 209, 109);
        for (int i = 2; i <= 9; i++) {
            t.oda(sender, i - 2, 100 + i, i, 200 + i);
        }
        t.oda(sender, 8);
        // One that went and comes again is the newest one.
        sendOda(sender, 10, 210, 101);
        t.oda(sender, 0, 103, 3, 203);
        t.oda(sender, 6, 109, 9, 209);
        t.oda(sender, 7, 101, 10, 210);
        t.oda(sender, 8);
        for (int i = 1; i <= 8; i++) {
            sendOda(sender, i, i, i);
        }
        t.oda(sender, 0, 1, 1, 1);
        t.oda(sender, 7, 8, 8, 8);
    }

    private static void odaWhats(Edges t) {
        t.edge(14, "Of ODA k, by when they first came: 0 AID, 1 the TYPE times 2 and version, 2 what C had.");
        Sender sender = Sender.synced(PI);
        sendOda(sender, 0, 0, 0xFFFF);
        sendOda(sender, 31, 0xFFFF, 0);
        t.oda(sender, 0, 0xFFFF, 0, 0);
        t.oda(sender, 1, 0, 31, 0xFFFF);
        sendOda(sender, 1, 2, 0xFFFF);
        t.oda(sender, 0, 0xFFFF, 1, 2);
        t.oda(sender, 1, 0, 31, 0xFFFF);
    }

    private static void odaThatIsNotThere(Edges t) {
        t.edge(14, "NONE if there is none such.");
        Sender one = Sender.synced(PI);
        sendOda(one, 1, 2, 3);
        Sender[] senders = {new Sender(), one, eightOdas()};
        int[] sizes = {0, 1, 8};
        int[] wrong = {-1, 9, MIN, MAX};
        for (int i = 0; i < senders.length; i++) {
            t.oda(senders[i], sizes[i]);
            t.oda(senders[i], -1);
            for (int x : wrong) {
                t.oda(senders[i], x);
                t.due("oda(0, " + x + ")", senders[i].desk.oda(0, x), -1);
            }
            t.due("oda(0, 3)", senders[i].desk.oda(0, 3), -1);
        }
    }

    // ---- OTHERS

    /** With a PIN, which tells one from another. */
    private static void sendOther(Sender sender, int pi, int pin) {
        sender.typed(PI, 28, 14, pin, pi);
    }

    private static Sender eightOthers() {
        Sender sender = Sender.synced(PI);
        for (int i = 1; i <= 8; i++) {
            sendOther(sender, 100 + i, 200 + i);
        }
        return sender;
    }

    private static void otherThatIsThere(Edges t) {
        t.edge(16, "OTHERS: at most 8, by PI, likewise;");
        for (int again = 1; again <= 8; again++) {
            Sender sender = eightOthers();
            sender.typed(PI, 29, 0b11000, R, 100 + again);
            sendOther(sender, 100 + again, 0xFFFF);
            for (int i = 1; i <= 8; i++) {
                boolean isIt = i == again;
                t.other(sender, i - 1, 100 + i, 0, -1, isIt ? 1 : -1, isIt ? 0xFFFF : 200 + i, -1);
            }
            t.other(sender, 8);
        }
    }

    private static void oldestOtherGoes(Edges t) {
        t.edge(16, "OTHERS: at most 8, by PI, likewise;");
        Sender sender = Sender.synced(PI);
        for (int v = 0; v < 5; v++) {
            sender.typed(PI, 28, v % 4, 0x4142 + v, 101);
        }
        for (int what = 4; what <= 14; what++) {
            sender.typed(PI, 28, 16 | what, 0xFFFF, 101);
        }
        for (int i = 1; i <= 8; i++) {
            sendOther(sender, 100 + i, 200 + i);
        }
        sender.typed(PI, 29, 0b11000, PI, 101);
        t.other(sender, 0, 101, 1, 31, 1, 201, 0xFFFF, 0xFFFF, 0xFFFF, 0xFFFF, 0xFFFF, 0xFFFF, 1);
        // The ninth one: the first one goes, though it came again; nothing of it stays, nor of its NAME and DRAFT.
        sender.typed(PI, 28, 1, 0x6162, 109);
        for (int i = 2; i <= 8; i++) {
            t.other(sender, i - 2, 100 + i, 0, -1, -1, 200 + i, -1);
        }
        t.other(sender, 7, 109, 0, -1, -1, -1, -1, -1, -1, -1, -1, -1, 0);
        t.otherName(sender, 7, "");
        t.other(sender, 8);
        sender.typed(PI, 28, 2, 0x6364, 109);
        sender.typed(PI, 28, 3, 0x6566, 109);
        t.other(sender, 7, 109, 0, -1, -1, -1, -1, -1, -1, -1, -1, -1, 0);
        sender.typed(PI, 28, 0, 0x5758, 109);
        t.otherName(sender, 7, "WXabcdef");
        // One that went and comes again is the newest one.
        sendOther(sender, 101, 5);
        t.other(sender, 0, 103, 0, -1, -1, 203);
        t.otherName(sender, 6, "WXabcdef");
        t.other(sender, 7, 101, 0, -1, -1, 5, -1, -1, -1, -1, -1, -1, 0);
    }

    private static void eachHasItsOwn(Edges t) {
        t.edge(16, "each has a NAME with DRAFT, AF bytes, MAPPED ones, LINK, PTY, TA, TP, PIN.");
        Sender sender = Sender.synced(PI);
        for (int v = 0; v < 16; v++) {
            sender.typed(PI, 28, 16 | v, 0x4142, 8);
            sender.typed(PI, 28, v, 0x6163, 9);
        }
        t.other(sender, 0, 8, 1, 8, 0, 0x4142, 0x4142, 0x4142, 0x4142, 0x4142, 0x4142, 0x4142, 1);
        t.other(sender, 1, 9, 0, 12, 1, 0x6163, 0x6163, 0x6163, 0x6163, 0x6163, 0x6163, 0x6163, 1);
        t.otherName(sender, 0, "ABABABAB");
        t.otherName(sender, 1, "acacacac");
        // None of it is the programme's own.
        t.letters(sender, 0, "");
        t.reports(sender, 0, 0);
        t.reports(sender, 3, 0);
        t.marks(sender, 0, 0);
        for (int what = 3; what <= 9; what++) {
            t.programme(sender, what, -1);
        }
    }

    private static void otherWhats(Edges t) {
        t.edge(16, "Of OTHER k, by when they first came: 0 PI, 1 TP, 2 PTY, 3 TA, 4 PIN, 5 LINK, "
                + "6 AF bytes (the first one times 256), 7 to 10 MAPPED 0 to 3 (what is heard times 256, and where), "
                + "11 REPORTS of its NAME (0 at first).");
        Sender sender = Sender.synced(PI);
        int[] wants = {0, 0, -1, -1, -1, -1, -1, -1, -1, -1, -1, 0};
        sender.typed(PI, 28, 15, 0xFFFF, 0);
        t.other(sender, 0, wants);
        int[] variants = {14, 12, 4, 5, 6, 7, 8};
        for (int i = 0; i < variants.length; i++) {
            wants[4 + i] = 0xFF00 + i;
            sender.typed(PI, 28, variants[i], 0xFF00 + i, 0);
            t.other(sender, 0, wants);
        }
        sender.typed(PI, 28, 13, 0xF800, 0);
        wants[2] = 31;
        wants[3] = 0;
        t.other(sender, 0, wants);
        sender.typed(PI, 28, 16 | 13, 0x07FF, 0);
        wants[1] = 1;
        wants[2] = 0;
        wants[3] = 1;
        t.other(sender, 0, wants);
        for (int i = 0; i < 12; i++) {
            t.due("other(0, 11)", sender.desk.other(0, 11), i / 4);
            sender.typed(PI, 28, i % 4, 0x4142, 0);
        }
        t.due("other(0, 11)", sender.desk.other(0, 11), 3);
        sender.typed(PI, 29, 0, R, 0xFFFF);
        t.other(sender, 1, 0xFFFF, 0, -1, 0, -1, -1, -1, -1, -1, -1, -1, 0);
    }

    private static void otherHasNotCome(Edges t) {
        t.edge(16, "NONE for what hasn't come, and if there is none such.");
        Sender one = Sender.synced(PI);
        one.typed(PI, 28, 9, 0, 8);
        t.other(one, 0, 8, 0, -1, -1, -1, -1, -1, -1, -1, -1, -1, 0);
        Sender[] senders = {new Sender(), one, eightOthers(), Sender.filled(PI)};
        int[] sizes = {0, 1, 8, 1};
        int[] wrong = {-1, 12, 13, MIN, MAX};
        for (int i = 0; i < senders.length; i++) {
            t.other(senders[i], sizes[i]);
            for (int x : wrong) {
                t.other(senders[i], x);
                t.due("other(0, " + x + ")", senders[i].desk.other(0, x), -1);
            }
        }
    }

    private static void otherLetters(Edges t) {
        t.edge(17, "Byte i of the NAME of OTHER k.");
        Sender sender = Sender.synced(PI);
        for (int k = 0; k < 8; k++) {
            for (int v = 3; v >= 0; v--) {
                sender.typed(PI, 28, v, k << 12 | v << 8 | 255 - k, 100 + k);
            }
        }
        for (int k = 0; k < 8; k++) {
            for (int i = 0; i < 8; i++) {
                int want = i % 2 == 0 ? k << 4 | i / 2 : 255 - k;
                t.due("otherLetter(" + k + ", " + i + ")", sender.desk.otherLetter(k, i), want);
            }
        }
        // A DRAFT that is not FULL changes nothing of it, a FULL one all.
        sender.typed(PI, 28, 0, 0x5859, 107);
        t.due("otherLetter(7, 0)", sender.desk.otherLetter(7, 0), 0x70);
        for (int v = 1; v < 4; v++) {
            sender.typed(PI, 28, v, 0x5859, 107);
        }
        t.otherName(sender, 7, "XYXYXYXY");
    }

    private static void otherLetterThatIsNotThere(Edges t) {
        t.edge(17, "NONE if there is none such.");
        Sender[] senders = {new Sender(), eightOthers(), Sender.filled(PI)};
        int[] wrong = {-1, 8, 9, MIN, MAX};
        for (Sender sender : senders) {
            for (int x : wrong) {
                t.due("otherLetter(" + x + ", 0)", sender.desk.otherLetter(x, 0), -1);
                t.due("otherLetter(0, " + x + ")", sender.desk.otherLetter(0, x), -1);
            }
            t.otherName(sender, 1, "");
        }
        t.otherName(senders[1], 0, "");
        t.otherName(senders[1], 7, "");
        t.otherName(senders[2], 0, "ABABABAB");
    }
}
