import java.time.LocalDateTime;
import java.util.ArrayList;
import java.util.Arrays;
import java.util.HashMap;
import java.util.LinkedHashMap;
import java.util.List;
import java.util.Map;
import java.util.TreeMap;

/**
 * The document a second time, as near to its words as can be and without care for speed: MatchTest
 * holds the desk against it. It keeps every bit of a SEARCH, tries every burst bit by bit, and
 * makes new objects where the document says 'as at first'.
 */
final class Model {
    private static final int[] OFFSETS = {252, 408, 360, 436, 848};

    private int limit = 5;
    private int loss = 30;
    private Air air = new Air();
    private Told told = new Told();
    private Block[] latest;

    /** One of the four of a GROUP. */
    private static final class Block {
        int how = 3;
        Integer has;
        int letter = -1;
    }

    /** SEARCH and SYNC. */
    private static final class Air {
        List<Integer> bits = new ArrayList<>();
        Map<Integer, Integer> hits = new HashMap<>();
        boolean sync;
        int place;
        Block[] group;
        List<Integer> looked = new ArrayList<>();
        int[] hows = new int[3];
        int all;
        int taken;
        int whole;
        int syncs;
        int lost;
    }

    /** A DRAFT, by its MARKED pieces. */
    private static final class Draft {
        final int pieces;
        final boolean ends;
        TreeMap<Integer, List<Integer>> marked = new TreeMap<>();
        List<Integer> full;
        String before;
        int reports;

        Draft(int pieces, boolean ends) {
            this.pieces = pieces;
            this.ends = ends;
        }

        void piece(String key, int s, List<Integer> bytes) {
            if (before != null && !before.equals(key)) {
                marked.clear();
            }
            before = key;
            if (marked.containsKey(s) && !marked.get(s).equals(bytes)) {
                marked.clear();
            }
            marked.put(s, bytes);
            int last = pieces - 1;
            for (int i = pieces - 1; ends && i >= 0; i--) {
                if (marked.containsKey(i) && marked.get(i).contains(13)) {
                    last = i;
                }
            }
            List<Integer> all = new ArrayList<>();
            for (int i = 0; i <= last; i++) {
                if (!marked.containsKey(i)) {
                    return;
                }
                all.addAll(marked.get(i));
            }
            full = ends && all.contains(13) ? all.subList(0, all.indexOf(13)) : all;
            reports++;
            marked = new TreeMap<>();
        }

        int marks() {
            int bits = 0;
            for (int i : marked.keySet()) {
                bits |= 1 << i;
            }
            return bits;
        }

        int letter(int k) {
            return full == null || k < 0 || k >= full.size() ? -1 : full.get(k);
        }
    }

    /** ANOTHER programme. */
    private static final class Other {
        Map<Integer, Integer> facts = new HashMap<>();
        Draft name = new Draft(4, false);
    }

    /** All of 2 and 3. */
    private static final class Told {
        Map<Integer, Integer> programme = new HashMap<>();
        Draft name = new Draft(4, false);
        Draft text = new Draft(16, true);
        Draft kind = new Draft(2, false);
        List<Integer> list;
        List<Integer> under;
        int says;
        boolean low;
        int lists;
        LocalDateTime utc;
        int day;
        int offset;
        int times;
        LinkedHashMap<Integer, int[]> odas = new LinkedHashMap<>();
        LinkedHashMap<Integer, Other> others = new LinkedHashMap<>();
        int[] tags;
        int tagReports;
    }

    // ---- blocks

    static int block(int information, int letter) {
        if (letter < 0 || letter > 4) {
            return -1;
        }
        long value = (long) (information & 0xFFFF) << 10;
        long left = value;
        long divisor = 0b10110111001L;
        while (Long.numberOfLeadingZeros(left) <= Long.numberOfLeadingZeros(divisor)) {
            left ^= divisor << Long.numberOfLeadingZeros(divisor) - Long.numberOfLeadingZeros(left);
        }
        return (int) (value | left ^ OFFSETS[letter]);
    }

    private static boolean isGood(int bits, int letter) {
        return block(bits >> 10, letter) == bits;
    }

    private int corrected(int bits, int letter) {
        List<Integer> found = new ArrayList<>();
        for (int first = 0; first < 26; first++) {
            for (int n = 1; n <= limit && first + n <= 26; n++) {
                for (int burst = 0; burst < 1 << n; burst++) {
                    boolean ends = (burst & 1) == 1 && (burst >> n - 1 & 1) == 1;
                    if (ends && isGood(bits ^ burst << first, letter)) {
                        found.add(bits ^ burst << first);
                    }
                }
            }
        }
        return found.size() == 1 ? found.get(0) : -1;
    }

    // ---- bits

    boolean feed(int bits, int n) {
        if (n < 1 || n > 26) {
            return false;
        }
        for (int i = n - 1; i >= 0; i--) {
            bit(bits >> i & 1);
        }
        return true;
    }

    private int word(int end) {
        int word = 0;
        for (int i = end - 26; i < end; i++) {
            word = word * 2 + air.bits.get(i);
        }
        return word;
    }

    private void bit(int bit) {
        air.all++;
        air.bits.add(bit);
        int now = air.bits.size();
        if (air.sync) {
            if (now == 26) {
                int word = word(26);
                air.bits.clear();
                look(word);
            }
            return;
        }
        if (now < 26) {
            return;
        }
        for (int letter = 0; letter < 5; letter++) {
            if (isGood(word(now), letter)) {
                air.hits.put(now, letter == 4 ? 2 : letter);
            }
        }
        if (!air.hits.containsKey(now)) {
            return;
        }
        int place = air.hits.get(now);
        for (int n = 1; n <= 3; n++) {
            Integer ahead = air.hits.get(now - 26 * n);
            if (ahead != null && ahead == (place + 4 - n) % 4) {
                sync(place, now);
                return;
            }
        }
    }

    private void sync(int place, int now) {
        air.sync = true;
        air.syncs++;
        air.looked = new ArrayList<>();
        air.group = emptyGroup();
        List<Integer> words = new ArrayList<>();
        for (int p = 0; p <= place; p++) {
            int end = now - 26 * (place - p);
            words.add(end >= 26 ? word(end) : -1);
        }
        air.bits = new ArrayList<>();
        for (int p = 0; p <= place && air.sync; p++) {
            air.place = p;
            if (words.get(p) >= 0) {
                look(words.get(p));
            }
        }
    }

    private static Block[] emptyGroup() {
        return new Block[] {new Block(), new Block(), new Block(), new Block()};
    }

    private void look(int word) {
        int place = air.place;
        Block block = air.group[place];
        block.how = 2;
        for (int letter = 0; letter < 5; letter++) {
            if ((letter == place || letter == 4 && place == 2) && isGood(word, letter)) {
                block.how = 0;
                block.has = word >> 10;
                block.letter = letter;
            }
        }
        int aim = place;
        if (place == 2) {
            Integer second = air.group[1].has;
            aim = second == null ? -1 : (second & 2048) != 0 ? 4 : 2;
        }
        if (block.how == 2 && aim >= 0 && corrected(word, aim) >= 0) {
            block.how = 1;
            block.has = corrected(word, aim) >> 10;
            block.letter = aim;
        }
        air.hows[block.how]++;
        air.looked.add(block.how);
        air.place = (place + 1) % 4;
        if (place == 3) {
            take();
        }
        if (badOnes() >= loss) {
            air.lost++;
            air.sync = false;
            air.bits = new ArrayList<>();
            air.hits = new HashMap<>();
        }
    }

    private int badOnes() {
        int bad = 0;
        for (int i = Math.max(0, air.looked.size() - 50); i < air.looked.size(); i++) {
            bad += air.looked.get(i) == 2 ? 1 : 0;
        }
        return bad;
    }

    // ---- groups

    private void take() {
        latest = air.group;
        air.group = emptyGroup();
        air.taken++;
        boolean whole = true;
        for (Block block : latest) {
            whole &= block.has != null;
        }
        air.whole += whole ? 1 : 0;
        Integer pi = latest[0].has;
        if (pi == null && latest[2].has != null && latest[2].letter == 4) {
            pi = latest[2].has;
        }
        if (pi != null) {
            Integer before = told.programme.get(0);
            if (before != null && !before.equals(pi)) {
                told = new Told();
            }
            told.programme.put(0, pi);
        }
        if (latest[1].has != null) {
            takeSecond(latest[1].has, latest[2].has, latest[3].has);
        }
    }

    private static int bits(int value, int high, int low) {
        int out = 0;
        for (int i = high; i >= low; i--) {
            out = out * 2 + (value >> i & 1);
        }
        return out;
    }

    private static List<Integer> bytes(Integer... words) {
        List<Integer> out = new ArrayList<>();
        for (int word : words) {
            out.add(word / 256);
            out.add(word % 256);
        }
        return out;
    }

    private void takeSecond(int b, Integer c, Integer d) {
        String type = bits(b, 15, 12) + (bits(b, 11, 11) == 0 ? "A" : "B");
        boolean both = c != null && d != null;
        told.programme.put(1, bits(b, 10, 10));
        told.programme.put(2, bits(b, 9, 5));
        int[] oda = told.odas.get(19415);
        if (oda != null && both && type.equals(oda[0] / 2 + "A") && oda[0] % 2 == 0) {
            told.tagReports++;
            told.tags = new int[] {bits(b, 4, 4), bits(b, 3, 3),
                bits(b, 2, 0) * 8 + bits(c, 15, 13), bits(c, 12, 7), bits(c, 6, 1),
                bits(c, 0, 0) * 32 + bits(d, 15, 11), bits(d, 10, 5), bits(d, 4, 0)};
        }
        if (Arrays.asList("0A", "0B", "15B").contains(type)) {
            told.programme.put(3, bits(b, 4, 4));
            told.programme.put(4, bits(b, 3, 3));
            int old = told.programme.getOrDefault(5, 0);
            int bit = 3 - bits(b, 1, 0);
            told.programme.put(5, bits(b, 2, 2) == 1 ? old | 1 << bit : old & 15 - (1 << bit));
        }
        if (type.startsWith("0") && d != null) {
            told.name.piece("", bits(b, 1, 0), bytes(d));
        }
        if (type.equals("0A") && c != null) {
            af(c / 256);
            af(c % 256);
        }
        if ((type.equals("1A") || type.equals("1B")) && d != null) {
            told.programme.put(6, d);
        }
        if (type.equals("1A") && c != null) {
            int tells = bits(c, 14, 12);
            if (tells == 0) {
                told.programme.put(7, bits(c, 7, 0));
            } else if (tells == 3) {
                told.programme.put(8, bits(c, 7, 0));
            } else if (tells == 7) {
                told.programme.put(9, bits(c, 11, 0));
            }
        }
        if (type.equals("2A") && both) {
            told.text.piece("A" + bits(b, 4, 4), bits(b, 3, 0), bytes(c, d));
        }
        if (type.equals("2B") && d != null) {
            told.text.piece("B" + bits(b, 4, 4), bits(b, 3, 0), bytes(d));
        }
        if (type.equals("10A") && both) {
            told.kind.piece("" + bits(b, 4, 4), bits(b, 0, 0), bytes(c, d));
        }
        if (type.equals("4A") && both) {
            time(b, c, d);
        }
        if (type.equals("3A") && both) {
            if (told.odas.size() == 8 && !told.odas.containsKey(d)) {
                told.odas.remove(told.odas.keySet().iterator().next());
            }
            told.odas.put(d, new int[] {bits(b, 4, 0), c});
        }
        if (type.startsWith("14") && d != null) {
            another(type, b, c, d);
        }
    }

    private void af(int code) {
        if (told.low) {
            told.low = false;
            count(code >= 1 && code <= 15 ? 144 + 9 * code : code >= 16 && code <= 135 ? 387 + 9 * code : 0);
        } else if (code >= 224 && code <= 249) {
            told.under = new ArrayList<>();
            told.says = code - 224;
            finishList();
        } else if (told.under != null && code == 250) {
            told.low = true;
        } else if (told.under != null && code != 205) {
            count(code >= 1 && code <= 204 ? 87500 + code * 100 : 0);
        }
    }

    private void count(int kilohertz) {
        told.under.add(kilohertz);
        finishList();
    }

    private void finishList() {
        if (told.under.size() == told.says) {
            told.list = told.under;
            told.under = null;
            told.lists++;
        }
    }

    private void time(int b, int c, int d) {
        int hour = bits(c, 0, 0) * 16 + bits(d, 15, 12);
        int minute = bits(d, 11, 6);
        int halves = bits(d, 4, 0);
        if (hour > 23 || minute > 59 || halves > 28) {
            return;
        }
        told.day = bits(b, 1, 0) * 32768 + bits(c, 15, 1);
        told.utc = LocalDateTime.of(1858, 11, 17, hour, minute).plusDays(told.day);
        told.offset = bits(d, 5, 5) == 1 ? -halves : halves;
        told.times++;
    }

    private void another(String type, int b, Integer c, int pi) {
        Other other = told.others.get(pi);
        if (other == null) {
            if (told.others.size() == 8) {
                told.others.remove(told.others.keySet().iterator().next());
            }
            other = new Other();
            other.facts.put(0, pi);
            told.others.put(pi, other);
        }
        other.facts.put(1, bits(b, 4, 4));
        int v = bits(b, 3, 0);
        if (type.equals("14B")) {
            other.facts.put(3, bits(b, 3, 3));
        } else if (c != null && v <= 3) {
            other.name.piece("", v, bytes(c));
        } else if (c != null && v == 4) {
            other.facts.put(6, c);
        } else if (c != null && v <= 8) {
            other.facts.put(v + 2, c);
        } else if (c != null && v == 12) {
            other.facts.put(5, c);
        } else if (c != null && v == 13) {
            other.facts.put(2, bits(c, 15, 11));
            other.facts.put(3, bits(c, 0, 0));
        } else if (c != null && v == 14) {
            other.facts.put(4, c);
        }
    }

    // ---- questions

    boolean set(int newLimit, int newLoss) {
        if (newLimit < 0 || newLimit > 5 || newLoss < 1 || newLoss > 50) {
            return false;
        }
        limit = newLimit;
        loss = newLoss;
        return true;
    }

    void forget() {
        air = new Air();
        told = new Told();
        latest = null;
    }

    int state(int what) {
        int[] all = {air.sync ? 1 : 0, air.all, air.hows[0], air.hows[1], air.hows[2], air.taken, air.whole,
            air.syncs, air.lost, air.sync ? air.place : -1, air.sync ? badOnes() : 0};
        return what < 0 || what >= all.length ? -1 : all[what];
    }

    int group(int what) {
        if (latest == null || what < 0 || what > 8) {
            return -1;
        }
        if (what < 4) {
            return latest[what].has == null ? -1 : latest[what].has;
        }
        if (what < 8) {
            return latest[what - 4].how;
        }
        return latest[1].has == null ? -1 : latest[1].has / 2048;
    }

    int programme(int what) {
        return told.programme.getOrDefault(what, -1);
    }

    int reports(int what) {
        int[] all = {told.name.reports, told.text.reports, told.kind.reports, told.lists, told.times,
            told.tagReports};
        return what < 0 || what >= all.length ? -1 : all[what];
    }

    int letter(int what, int k) {
        switch (what) {
            case 0: return told.name.letter(k);
            case 1: return told.text.letter(k);
            case 2: return told.kind.letter(k);
            case 3: return tagLetter(2, k);
            case 4: return tagLetter(5, k);
            default: return -1;
        }
    }

    private int tagLetter(int from, int k) {
        if (told.tags == null || told.tags[from] == 0 || told.text.full == null || k < 0) {
            return -1;
        }
        int begin = Math.min(told.tags[from + 1], told.text.full.size());
        int end = Math.min(told.tags[from + 1] + told.tags[from + 2] + 1, told.text.full.size());
        List<Integer> piece = told.text.full.subList(begin, end);
        return k < piece.size() ? piece.get(k) : -1;
    }

    int marks(int what) {
        return what == 0 ? told.name.marks() : what == 1 ? told.text.marks() : what == 2 ? told.kind.marks() : -1;
    }

    int frequency(int k) {
        return told.list == null || k < 0 || k >= told.list.size() ? -1 : told.list.get(k);
    }

    int time(int what) {
        if (told.utc == null || what < 0 || what > 12) {
            return -1;
        }
        LocalDateTime utc = told.utc;
        LocalDateTime local = utc.plusMinutes(30L * told.offset);
        int[] all = {told.day, utc.getHour(), utc.getMinute(), told.offset, utc.getYear(), utc.getMonthValue(),
            utc.getDayOfMonth(), utc.getDayOfWeek().getValue() - 1, local.getYear(), local.getMonthValue(),
            local.getDayOfMonth(), local.getHour(), local.getMinute()};
        return all[what];
    }

    int oda(int k, int what) {
        if (k < 0 || k >= told.odas.size() || what < 0 || what > 2) {
            return -1;
        }
        int aid = new ArrayList<>(told.odas.keySet()).get(k);
        return what == 0 ? aid : told.odas.get(aid)[what - 1];
    }

    int tag(int what) {
        return told.tags == null || what < 0 || what > 7 ? -1 : told.tags[what];
    }

    private Other otherAt(int k) {
        return k < 0 || k >= told.others.size() ? null : new ArrayList<>(told.others.values()).get(k);
    }

    int other(int k, int what) {
        Other other = otherAt(k);
        if (other == null) {
            return -1;
        }
        return what == 11 ? other.name.reports : other.facts.getOrDefault(what, -1);
    }

    int otherLetter(int k, int i) {
        Other other = otherAt(k);
        return other == null ? -1 : other.name.letter(i);
    }
}
