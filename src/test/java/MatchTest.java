import java.util.Random;

/**
 * All promises: runs of at most 512 calls, made by chance from fixed seeds, on a desk and on Model.
 * Groups come in all types, with wrong, lost and doubled bits among them.
 */
public final class MatchTest {
    private static final Due TEST = new Due("MatchTest");
    private static final int RUNS = 3000;
    private static final int CALLS = 512;
    private static final int[] TYPES = {0, 0, 0, 1, 2, 2, 3, 4, 4, 4, 5, 5, 6, 6, 8, 20, 20, 22, 22, 28, 28, 28, 29, 31};
    private static final int[] CODES = {0, 1, 9, 15, 16, 17, 135, 136, 204, 205, 206, 223, 224, 225, 226, 226, 227, 228,
        249, 250, 250, 251, 255};

    private final Random random;
    private final RdsDesk desk = new RdsDesk();
    private final Model model = new Model();
    private final int noise;
    private final int alphabet;
    private int calls;

    private MatchTest(long seed) {
        random = new Random(seed);
        noise = random.nextInt(4);
        alphabet = 1 + random.nextInt(3);
    }

    public static void main(String[] args) {
        for (int seed = 0; seed < RUNS && TEST.isClean(); seed++) {
            TEST.about("seed " + seed);
            new MatchTest(seed).run();
        }
        TEST.end();
    }

    private void run() {
        if (random.nextInt(3) == 0) {
            set();
        }
        while (calls < CALLS - 160 && TEST.isClean()) {
            group();
            int chance = random.nextInt(60);
            if (chance == 0) {
                set();
            } else if (chance == 1 && random.nextInt(4) == 0) {
                forget();
            } else if (chance < 20) {
                ask();
            }
        }
        while (calls < CALLS && TEST.isClean()) {
            ask();
        }
    }

    private void due(String call, long got, long want) {
        calls++;
        TEST.due("call " + calls + ", " + call, got, want);
    }

    private void set() {
        int limit = random.nextInt(8) - 1;
        int loss = random.nextInt(4) == 0 ? random.nextInt(53) - 1 : 1 + random.nextInt(6);
        due("set(" + limit + ", " + loss + ")", desk.set(limit, loss) ? 1 : 0, model.set(limit, loss) ? 1 : 0);
    }

    private void forget() {
        desk.forget();
        model.forget();
        calls++;
    }

    private void feed(int bits, int n) {
        due("feed(" + bits + ", " + n + ")", desk.feed(bits, n) ? 1 : 0, model.feed(bits, n) ? 1 : 0);
        int[] seen = {0, 2, 3, 4, 5, 7, 8, 9, 10};
        int what = seen[random.nextInt(seen.length)];
        if (random.nextInt(4) == 0) {
            due("state(" + what + ")", desk.state(what), model.state(what));
        }
    }

    private int any(int... of) {
        return of[random.nextInt(of.length)];
    }

    private int letter() {
        return any(13, 65, 66, 67, 255, 0) * (random.nextInt(40) == 0 ? 0 : 1) % 256;
    }

    private int bytes() {
        return alphabet == 1 ? 0x4142 : alphabet == 2 ? any(0x4142, 0x410D, 0x4143) : letter() << 8 | letter();
    }

    private int pi() {
        return random.nextInt(80) == 0 ? any(8, 9) : 7;
    }

    private void group() {
        int type = random.nextInt(12) == 0 ? random.nextInt(32) : TYPES[random.nextInt(TYPES.length)];
        int five = random.nextInt(32);
        int c = random.nextInt(65536);
        int d = random.nextInt(65536);
        if (type == 0 || type == 1) {
            five = five & 7 | any(0, 24);
            c = any(CODES) << 8 | any(CODES);
            d = bytes();
        } else if (type == 4 || type == 5 || type == 20) {
            five = random.nextInt(12) == 0 ? five : random.nextInt(alphabet == 1 ? 16 : 5);
            c = bytes();
            d = bytes();
        } else if (type == 6) {
            five = any(22, 22, 24, 0, 4, 6, 23, five);
            d = random.nextInt(2) == 0 ? 19415 : 100 + random.nextInt(10);
        } else if (type == 8) {
            d = (random.nextInt(10) == 0 ? d : random.nextInt(14)) << 12 & 0xFFFF | random.nextInt(62) << 6
                    | random.nextInt(2) << 5 | random.nextInt(31);
        } else if (type == 28 || type == 29) {
            five = random.nextInt(2) == 0 ? five & 19 : five;
            c = (five & 15) < 4 ? bytes() : c;
            d = random.nextInt(3) == 0 ? 100 + random.nextInt(10) : 100;
        }
        int version = type & 1;
        c = version == 1 && random.nextInt(10) != 0 ? pi() : c;
        int swapped = random.nextInt(40) == 0 ? 1 - version : version;
        int[] words = {Sender.block(pi(), 0), Sender.block(type << 11 | random.nextInt(64) << 5 | five, 1),
            Sender.block(c, swapped == 1 ? 4 : 2), Sender.block(d, 3)};
        for (int word : words) {
            send(word);
        }
    }

    /** A block, wrong by chance, in one feed or in two. */
    private void send(int word) {
        int chance = random.nextInt(100);
        int wrong = 0;
        if (chance < noise * 8) {
            wrong = (1 + random.nextInt(31)) << random.nextInt(22);
        } else if (chance < noise * 12) {
            wrong = random.nextInt(1 << 26);
        }
        int bits = word ^ wrong;
        if (noise > 0 && random.nextInt(150) == 0) {
            feed(random.nextInt(), any(1, 2, 5, 0, 27, -1));
        }
        if (noise > 0 && random.nextInt(200) == 0) {
            feed(bits, 25);
        } else if (random.nextInt(12) == 0) {
            int cut = 1 + random.nextInt(25);
            feed(bits >>> cut, 26 - cut);
            feed(bits | random.nextInt(64) << 26, cut);
        } else {
            feed(bits, 26);
        }
    }

    private void ask() {
        int k = argument(10);
        int what = argument(14);
        switch (random.nextInt(15)) {
            case 0: due("state(" + what + ")", desk.state(what), model.state(what)); break;
            case 1: due("group(" + what + ")", desk.group(what), model.group(what)); break;
            case 2: due("programme(" + what + ")", desk.programme(what), model.programme(what)); break;
            case 3: due("reports(" + what + ")", desk.reports(what), model.reports(what)); break;
            case 4: case 5: askLetter(argument(7), argument(random.nextInt(5) == 0 ? 66 : 10)); break;
            case 6: due("marks(" + k + ")", desk.marks(k), model.marks(k)); break;
            case 7: due("frequency(" + k + ")", desk.frequency(k), model.frequency(k)); break;
            case 8: due("time(" + what + ")", desk.time(what), model.time(what)); break;
            case 9: due("oda(" + k + ", " + what % 4 + ")", desk.oda(k, what % 4), model.oda(k, what % 4)); break;
            case 10: due("tag(" + what + ")", desk.tag(what), model.tag(what)); break;
            case 11: case 12:
                due("other(" + k + ", " + what + ")", desk.other(k, what), model.other(k, what));
                break;
            case 13: due("otherLetter(" + k + ", " + what + ")", desk.otherLetter(k, what), model.otherLetter(k, what));
                break;
            default: askBlock(random.nextInt(), random.nextInt(7) - 1); break;
        }
    }

    /** From -1 on, so many; now and then any number at all. */
    private int argument(int count) {
        if (random.nextInt(15) == 0) {
            return any(Integer.MIN_VALUE, Integer.MAX_VALUE, -2, 255, 256, random.nextInt());
        }
        return random.nextInt(count) - 1;
    }

    private void askLetter(int what, int k) {
        due("letter(" + what + ", " + k + ")", desk.letter(what, k), model.letter(what, k));
    }

    private void askBlock(int information, int letter) {
        due("block(" + information + ", " + letter + ")", desk.block(information, letter),
                Model.block(information, letter));
    }
}
