import java.util.Arrays;

/**
 * A receiver's desk for the data that radio programmes bear beside their sound.
 *
 * The words in capitals are those of the document. Every row is made with the
 * desk and used again, so that no call but the constructor makes an object.
 */
public final class RdsDesk {
    public static final int NONE = -1;

    private static final int BLOCK_BITS = 26;
    private static final int BLOCK_MASK = (1 << BLOCK_BITS) - 1;
    private static final int CHECK_BITS = 10;
    private static final int INFORMATION_MASK = 0xFFFF;
    private static final int POLYNOMIAL = 0x5B9;
    private static final int[] OFFSETS = {252, 408, 360, 436, 848};
    private static final int LETTER_C = 2;
    private static final int LETTER_C_PRIME = 4;
    private static final int PLACES = 4;
    private static final int MOST_LIMIT = 5;
    private static final int MOST_LOSS = 50;

    private static final int OK = 0;
    private static final int RIGHTED = 1;
    private static final int BAD = 2;
    private static final int MISSING = 3;

    private final Receiver receiver;
    private final Group latest;
    private final Station station;

    public RdsDesk() {
        receiver = new Receiver();
        latest = new Group();
        station = new Station();
    }

    public boolean feed(int bits, int n) {
        if (n < 1 || n > BLOCK_BITS) {
            return false;
        }
        for (int i = n - 1; i >= 0; i--) {
            if (receiver.accept(bits >>> i & 1)) {
                // A copy, since the one at hand is filled anew while the latest one can still be asked about.
                latest.copy(receiver.atHand);
                station.take(latest);
            }
        }
        return true;
    }

    public int block(int information, int letter) {
        int offset = offsetOf(letter);
        int shifted = (information & INFORMATION_MASK) << CHECK_BITS;
        return offset == NONE ? NONE : shifted | rest(shifted) ^ offset;
    }

    public boolean set(int limit, int loss) {
        if (limit < 0 || limit > MOST_LIMIT || loss < 1 || loss > MOST_LOSS) {
            return false;
        }
        receiver.limit = limit;
        receiver.loss = loss;
        return true;
    }

    public void forget() {
        receiver.clear();
        latest.clear(NONE);
        station.clear();
    }

    public int state(int what) {
        return receiver.tell(what);
    }

    public int group(int what) {
        return latest.tell(what);
    }

    public int programme(int what) {
        return at(station.facts, what);
    }

    public int reports(int what) {
        switch (what) {
            case 0: return station.name.completed;
            case 1: return station.text.completed;
            case 2: return station.kind.completed;
            case 3: return station.list.completed;
            case 4: return station.clock.completed;
            case 5: return station.tags.completed;
            default: return NONE;
        }
    }

    public int letter(int what, int k) {
        switch (what) {
            case 0: return station.name.byteAt(k);
            case 1: return station.text.byteAt(k);
            case 2: return station.kind.byteAt(k);
            case 3: return station.tags.byteOf(Tags.FIRST, k, station.text);
            case 4: return station.tags.byteOf(Tags.SECOND, k, station.text);
            default: return NONE;
        }
    }

    public int marks(int what) {
        switch (what) {
            case 0: return station.name.marked;
            case 1: return station.text.marked;
            case 2: return station.kind.marked;
            default: return NONE;
        }
    }

    public int frequency(int k) {
        return station.list.entry(k);
    }

    public int time(int what) {
        return station.clock.tell(what);
    }

    public int oda(int k, int what) {
        return station.odas.tell(k, what);
    }

    public int tag(int what) {
        return at(station.tags.facts, what);
    }

    public int other(int k, int what) {
        Other found = station.others.get(k);
        return found == null ? NONE : found.tell(what);
    }

    public int otherLetter(int k, int i) {
        Other found = station.others.get(k);
        return found == null ? NONE : found.name.byteAt(i);
    }

    /** What a row has at an index; NONE outside it, so that no call can throw. */
    private static int at(int[] row, int index) {
        return index < 0 || index >= row.length ? NONE : row[index];
    }

    /** The len bits from bit 'lowest' upwards. */
    private static int field(int value, int lowest, int len) {
        return value >>> lowest & (1 << len) - 1;
    }

    /** The OFFSET of a LETTER; NONE for what is no LETTER. */
    private static int offsetOf(int letter) {
        return letter < 0 || letter >= OFFSETS.length ? NONE : OFFSETS[letter];
    }

    private static int rest(int bits) {
        int left = bits;
        for (int i = BLOCK_BITS - 1; i >= CHECK_BITS; i--) {
            if ((left >>> i & 1) == 1) {
                left ^= POLYNOMIAL << i - CHECK_BITS;
            }
        }
        return left;
    }

    /** The LETTER that bits are GOOD with, or NONE: the REST of a whole BLOCK, CHECK and all, is its OFFSET. */
    private static int letterOf(int bits) {
        int left = rest(bits);
        for (int letter = 0; letter < OFFSETS.length; letter++) {
            if (OFFSETS[letter] == left) {
                return letter;
            }
        }
        return NONE;
    }

    private static int placeOf(int letter) {
        return letter == LETTER_C_PRIME ? LETTER_C : letter;
    }

    /** The bits put right by the only BURST that makes them GOOD with the letter; NONE without just one. */
    private static int corrected(int bits, int letter, int limit) {
        int offset = offsetOf(letter);
        if (offset == NONE) {
            return NONE;
        }
        int wrong = rest(bits) ^ offset;
        int found = 0;
        int burst = 0;
        // A BURST begins and ends with a 1: the odd numbers, moved up as far as the block goes.
        for (int pattern = 1; pattern < 1 << limit; pattern += 2) {
            int left = pattern;
            for (int up = 0; up < BLOCK_BITS && pattern << up <= BLOCK_MASK; up++) {
                if (left == wrong) {
                    found++;
                    burst = pattern << up;
                }
                left = timesX(left);
            }
        }
        return found == 1 ? bits ^ burst : NONE;
    }

    private static int timesX(int left) {
        int doubled = left << 1;
        return doubled >>> CHECK_BITS == 0 ? doubled : doubled ^ POLYNOMIAL;
    }

    /** The four BLOCKS of a GROUP, as they were LOOKED AT. */
    private static final class Group {
        static final int TYPE_AND_VERSION = 2 * PLACES;

        final int[] information = new int[PLACES];
        final int[] how = new int[PLACES];
        boolean primed;

        Group() {
            clear(NONE);
        }

        void clear(int status) {
            Arrays.fill(information, NONE);
            Arrays.fill(how, status);
            primed = false;
        }

        void copy(Group from) {
            System.arraycopy(from.information, 0, information, 0, PLACES);
            System.arraycopy(from.how, 0, how, 0, PLACES);
            primed = from.primed;
        }

        /** Looks at the BLOCK of a PLACE and answers how it was. */
        int lookAt(int place, int bits, int limit) {
            int letter = letterOf(bits);
            if (placeOf(letter) == place) {
                return keep(place, bits, letter, OK);
            }
            int aim = aimOf(place);
            int righted = corrected(bits, aim, limit);
            if (righted != NONE) {
                return keep(place, righted, aim, RIGHTED);
            }
            return keep(place, NONE, NONE, BAD);
        }

        /** The LETTER that a BLOCK may be CORRECTED to; NONE if C and C' can't be told apart. */
        private int aimOf(int place) {
            if (place != LETTER_C) {
                return place;
            }
            if (!knows(1)) {
                return NONE;
            }
            return (information[1] >>> 11 & 1) == 1 ? LETTER_C_PRIME : LETTER_C;
        }

        private int keep(int place, int bits, int letter, int status) {
            if (place >= 0 && place < PLACES) {
                information[place] = bits == NONE ? NONE : bits >>> CHECK_BITS;
                how[place] = status;
                primed |= letter == LETTER_C_PRIME;
            }
            return status;
        }

        int what(int place) {
            return place < 0 || place >= PLACES ? NONE : information[place];
        }

        boolean knows(int place) {
            return place >= 0 && place < PLACES && information[place] != NONE;
        }

        boolean knowsCAndD() {
            return knows(2) && knows(3);
        }

        boolean isWhole() {
            return knows(0) && knows(1) && knows(2) && knows(3);
        }

        /** The PI that it tells, or NONE: a BLOCK 2 of LETTER C' bears it as BLOCK 0 does. */
        int identity() {
            return knows(0) || !primed ? what(0) : what(2);
        }

        int typeAndVersion() {
            return knows(1) ? what(1) >>> 11 : NONE;
        }

        int tell(int what) {
            if (what == TYPE_AND_VERSION) {
                return typeAndVersion();
            }
            return what < PLACES ? at(information, what) : at(how, what - PLACES);
        }
    }

    /** Which of the latest BLOCKS that count were BAD. */
    private static final class Window {
        static final int SPAN = 50;

        final int[] flags = new int[SPAN];
        int size;
        int next;
        int bad;

        void clear() {
            size = 0;
            next = 0;
            bad = 0;
        }

        void add(int flag) {
            if (next < 0 || next >= SPAN) {
                return;
            }
            if (size < SPAN) {
                size++;
            } else {
                bad -= flags[next];
            }
            flags[next] = flag;
            bad += flag;
            next = next + 1 < SPAN ? next + 1 : 0;
        }
    }

    /** Finds the BLOCKS in the bits: SEARCH and SYNC. */
    private static final class Receiver {
        static final int FIRST_LOSS = 30;
        static final int FARTHEST_HIT = 3;
        /** One word for each bit end, back to the end of the BLOCK three PLACES ahead. */
        static final int WORDS = FARTHEST_HIT * BLOCK_BITS + 1;
        static final int ENOUGH_BITS = PLACES * BLOCK_BITS;

        final Group atHand = new Group();
        final Window window = new Window();
        final int[] words = new int[WORDS];
        final int[] looked = new int[MISSING];
        int limit = MOST_LIMIT;
        int loss = FIRST_LOSS;
        int word;
        int newest;
        int came;
        int waited;
        int place = NONE;
        int bits;
        int taken;
        int whole;
        int syncs;
        int losses;

        void clear() {
            Arrays.fill(looked, 0);
            beginSearch();
            bits = 0;
            taken = 0;
            whole = 0;
            syncs = 0;
            losses = 0;
        }

        /** The words of before may stay: 'came' keeps them out of this SEARCH. */
        private void beginSearch() {
            window.clear();
            came = 0;
            waited = 0;
            place = NONE;
        }

        /** Takes one bit; true if a GROUP was TAKEN with it. */
        boolean accept(int bit) {
            bits++;
            word = (word << 1 | bit) & BLOCK_MASK;
            if (place != NONE) {
                return follow();
            }
            int hit = search();
            return hit != NONE && synchronise(hit);
        }

        private boolean follow() {
            waited++;
            if (waited < BLOCK_BITS) {
                return false;
            }
            waited = 0;
            return lookAt(word);
        }

        /** The PLACE of a HIT that is SYNC; NONE without one. */
        private int search() {
            // More are never looked back at.
            came = Math.min(came + 1, ENOUGH_BITS);
            newest = newest >= 0 && newest + 1 < WORDS ? newest + 1 : 0;
            words[newest] = word;
            int hit = hitAhead(0);
            return hit != NONE && isSync(hit) ? hit : NONE;
        }

        /** The 26 bits that ended so many BLOCKS ahead; NONE if not all of them came in this SEARCH. */
        private int wordAhead(int blocks) {
            int distance = blocks * BLOCK_BITS;
            if (came < distance + BLOCK_BITS) {
                return NONE;
            }
            return at(words, Math.floorMod(newest - distance, WORDS));
        }

        private int hitAhead(int blocks) {
            int found = wordAhead(blocks);
            return found == NONE ? NONE : placeOf(letterOf(found));
        }

        private boolean isSync(int hit) {
            for (int n = 1; n <= FARTHEST_HIT; n++) {
                if (hitAhead(n) == (hit - n & PLACES - 1)) {
                    return true;
                }
            }
            return false;
        }

        private boolean synchronise(int hit) {
            syncs++;
            atHand.clear(MISSING);
            place = 0;
            boolean isTaken = false;
            for (int i = 0; i <= hit && place != NONE; i++) {
                int found = wordAhead(hit - i);
                if (found == NONE) {
                    place++;
                } else {
                    isTaken = lookAt(found);
                }
            }
            return isTaken;
        }

        /** Looks at the BLOCK of the PLACE at hand; true if its GROUP is TAKEN with it. */
        private boolean lookAt(int found) {
            if (place == 0) {
                atHand.clear(MISSING);
            }
            int how = atHand.lookAt(place, found, limit);
            if (how >= 0 && how < looked.length) {
                looked[how]++;
            }
            window.add(how == BAD ? 1 : 0);
            boolean isTaken = place == PLACES - 1;
            if (isTaken) {
                taken++;
                whole += atHand.isWhole() ? 1 : 0;
            }
            place = isTaken ? 0 : place + 1;
            if (window.bad >= loss) {
                losses++;
                beginSearch();
            }
            return isTaken;
        }

        int tell(int what) {
            switch (what) {
                case 0: return place == NONE ? 0 : 1;
                case 1: return bits;
                case 2: return at(looked, OK);
                case 3: return at(looked, RIGHTED);
                case 4: return at(looked, BAD);
                case 5: return taken;
                case 6: return whole;
                case 7: return syncs;
                case 8: return losses;
                case 9: return place;
                case 10: return window.bad;
                default: return NONE;
            }
        }
    }

    /** All that the GROUPS of one PI tell. */
    private static final class Station {
        static final int PI = 0;
        static final int TP = 1;
        static final int PTY = 2;
        static final int TA = 3;
        static final int MS = 4;
        static final int DI = 5;
        static final int PIN = 6;
        static final int ECC = 7;
        static final int LANGUAGE = 8;
        static final int WARNING = 9;
        static final int FACTS = 10;

        static final int TAGS_AID = 19415;
        static final int CARRIAGE_RETURN = 13;

        final int[] facts = new int[FACTS];
        final Draft name = new Draft(4, 2, NONE);
        final Draft text = new Draft(16, 4, CARRIAGE_RETURN);
        final Draft kind = new Draft(2, 4, NONE);
        final FrequencyList list = new FrequencyList();
        final Clock clock = new Clock();
        final Odas odas = new Odas();
        final Others others = new Others();
        final Tags tags = new Tags();

        Station() {
            Arrays.fill(facts, NONE);
        }

        void clear() {
            Arrays.fill(facts, NONE);
            name.clear();
            text.clear();
            kind.clear();
            list.clear();
            clock.clear();
            odas.clear();
            others.clear();
            tags.clear();
        }

        void take(Group group) {
            takeIdentity(group.identity());
            if (!group.knows(1)) {
                return;
            }
            int b = group.what(1);
            facts[TP] = field(b, 10, 1);
            facts[PTY] = field(b, 5, 5);
            // Ahead of the rest: a 3A group may change the ODA that tells where TAGS come.
            if (bearsTags(group)) {
                tags.take(b, group.what(2), group.what(3));
            }
            // The cases are TYPE times 2 and the version.
            switch (group.typeAndVersion()) {
                case 0: takeTuning(group, b, true); break;
                case 1: takeTuning(group, b, false); break;
                case 2: takeItem(group, true); break;
                case 3: takeItem(group, false); break;
                case 4: takeLongText(group, b); break;
                case 5: takeShortText(group, b); break;
                case 6: takeOda(group, b); break;
                case 8: takeTime(group, b); break;
                case 20: takeKind(group, b); break;
                case 28: takeOther(group, b, true); break;
                case 29: takeOther(group, b, false); break;
                case 31: takeSwitches(b); break;
                default: break;
            }
        }

        private void takeIdentity(int identity) {
            if (identity == NONE) {
                return;
            }
            if (facts[PI] != NONE && facts[PI] != identity) {
                clear();
            }
            facts[PI] = identity;
        }

        private boolean bearsTags(Group group) {
            int type = group.typeAndVersion();
            return (type & 1) == 0 && type == odas.typeOf(TAGS_AID) && group.knowsCAndD();
        }

        private void takeSwitches(int b) {
            facts[TA] = field(b, 4, 1);
            facts[MS] = field(b, 3, 1);
            int place = 3 - field(b, 0, 2);
            int before = facts[DI] == NONE ? 0 : facts[DI];
            facts[DI] = before & ~(1 << place) | field(b, 2, 1) << place;
        }

        private void takeTuning(Group group, int b, boolean bearsFrequencies) {
            takeSwitches(b);
            if (group.knows(3)) {
                name.take(field(b, 0, 2), 2, group.what(3));
            }
            if (bearsFrequencies && group.knows(2)) {
                list.take(field(group.what(2), 8, 8));
                list.take(field(group.what(2), 0, 8));
            }
        }

        private void takeItem(Group group, boolean bearsSlow) {
            if (group.knows(3)) {
                facts[PIN] = group.what(3);
            }
            if (bearsSlow && group.knows(2)) {
                takeSlow(group.what(2));
            }
        }

        private void takeSlow(int c) {
            switch (field(c, 12, 3)) {
                case 0: facts[ECC] = field(c, 0, 8); break;
                case 3: facts[LANGUAGE] = field(c, 0, 8); break;
                case 7: facts[WARNING] = field(c, 0, 12); break;
                default: break;
            }
        }

        /** FLAG and version in one key, since another one of either does the same. */
        private void takeLongText(Group group, int b) {
            if (group.knowsCAndD()) {
                text.turn(field(b, 4, 1));
                text.take(field(b, 0, 4), 4, joined(group));
            }
        }

        private void takeShortText(Group group, int b) {
            if (group.knows(3)) {
                text.turn(2 + field(b, 4, 1));
                text.take(field(b, 0, 4), 2, group.what(3));
            }
        }

        private void takeKind(Group group, int b) {
            if (group.knowsCAndD()) {
                kind.turn(field(b, 4, 1));
                kind.take(field(b, 0, 1), 4, joined(group));
            }
        }

        private static int joined(Group group) {
            return group.what(2) << 16 | group.what(3);
        }

        private void takeOda(Group group, int b) {
            if (group.knowsCAndD()) {
                odas.take(group.what(3), field(b, 0, 5), group.what(2));
            }
        }

        private void takeTime(Group group, int b) {
            if (group.knowsCAndD()) {
                clock.take(b, group.what(2), group.what(3));
            }
        }

        private void takeOther(Group group, int b, boolean hasVariants) {
            if (!group.knows(3)) {
                return;
            }
            Other found = others.find(group.what(3));
            if (found == null) {
                return;
            }
            found.facts[Other.TP] = field(b, 4, 1);
            if (!hasVariants) {
                found.facts[Other.TA] = field(b, 3, 1);
            } else if (group.knows(2)) {
                found.takeVariant(field(b, 0, 4), group.what(2));
            }
        }
    }

    /** A DRAFT and what it was when it was FULL: a NAME, a TEXT or a KIND. */
    private static final class Draft {
        final int pieces;
        final int endByte;
        final int[] bytes;
        final int[] finished;
        int marked;
        int key;
        int length;
        int completed;

        /** A piece has 'size' bytes at most; endByte NONE: no byte ends it. */
        Draft(int pieces, int size, int endByte) {
            this.pieces = pieces;
            this.endByte = endByte;
            bytes = new int[pieces * size];
            finished = new int[pieces * size];
            key = NONE;
        }

        /** The bytes may stay: without MARKS and a length none of them counts. */
        void clear() {
            marked = 0;
            key = NONE;
            length = 0;
            completed = 0;
        }

        /** Ahead of a PIECE: all MARKS go if its key is another one than that of the PIECE before it. */
        void turn(int newKey) {
            if (newKey != key) {
                marked = 0;
            }
            key = newKey;
        }

        /** A PIECE comes; its bytes stand in 'packed', the first one highest. */
        void take(int piece, int size, int packed) {
            int start = piece * size;
            if (piece < 0 || piece >= pieces || size < 1 || start + size > bytes.length) {
                return;
            }
            if (isMarked(piece) && !holds(start, size, packed)) {
                marked = 0;
            }
            for (int i = 0; i < size; i++) {
                bytes[start + i] = unpacked(packed, size, i);
            }
            marked |= 1 << piece;
            finish(fullLength(size));
        }

        private static int unpacked(int packed, int size, int i) {
            return packed >>> 8 * (size - 1 - i) & 255;
        }

        private boolean isMarked(int piece) {
            return (marked >>> piece & 1) == 1;
        }

        private boolean holds(int start, int size, int packed) {
            for (int i = 0; i < size; i++) {
                if (at(bytes, start + i) != unpacked(packed, size, i)) {
                    return false;
                }
            }
            return true;
        }

        /** How many bytes the FULL DRAFT gives; NONE if it is not FULL. */
        private int fullLength(int size) {
            for (int piece = 0; piece < pieces; piece++) {
                if (!isMarked(piece)) {
                    return NONE;
                }
                int end = endWithin(piece * size, size);
                if (end != NONE) {
                    return end;
                }
            }
            return pieces * size;
        }

        /** Where the byte that ends the whole stands in a PIECE; NONE without one. */
        private int endWithin(int start, int size) {
            for (int i = start; i < start + size; i++) {
                if (i >= 0 && i < bytes.length && bytes[i] == endByte) {
                    return i;
                }
            }
            return NONE;
        }

        private void finish(int full) {
            if (full < 0 || full > bytes.length) {
                return;
            }
            System.arraycopy(bytes, 0, finished, 0, full);
            length = full;
            completed++;
            marked = 0;
        }

        int byteAt(int k) {
            return k < length ? at(finished, k) : NONE;
        }
    }

    /** The LIST of frequencies, and the one under way. */
    private static final class FrequencyList {
        static final int NO_LIST = 224;
        static final int MOST = 25;
        static final int LOW_WAVES_FOLLOW = 250;
        static final int FILLER = 205;

        final int[] drafted = new int[MOST];
        final int[] finished = new int[MOST];
        boolean isUnderWay;
        boolean isLowNext;
        int wanted;
        int has;
        int length;
        int completed;

        void clear() {
            isUnderWay = false;
            isLowNext = false;
            length = 0;
            completed = 0;
        }

        void take(int code) {
            if (isLowNext) {
                isLowNext = false;
                add(lowWave(code));
            } else if (code >= NO_LIST && code <= NO_LIST + MOST) {
                begin(code - NO_LIST);
            } else if (isUnderWay && code == LOW_WAVES_FOLLOW) {
                isLowNext = true;
            } else if (isUnderWay && code != FILLER) {
                add(veryHighWave(code));
            }
        }

        private void begin(int count) {
            isUnderWay = true;
            wanted = count;
            has = 0;
            finishIfFull();
        }

        private void add(int kilohertz) {
            if (has >= 0 && has < drafted.length) {
                drafted[has] = kilohertz;
                has++;
            }
            finishIfFull();
        }

        private void finishIfFull() {
            if (has < wanted) {
                return;
            }
            System.arraycopy(drafted, 0, finished, 0, MOST);
            length = has;
            completed++;
            isUnderWay = false;
        }

        private static int veryHighWave(int code) {
            return code >= 1 && code <= 204 ? 87500 + 100 * code : 0;
        }

        private static int lowWave(int code) {
            if (code >= 1 && code <= 15) {
                return 144 + 9 * code;
            }
            return code >= 16 && code <= 135 ? 387 + 9 * code : 0;
        }

        int entry(int k) {
            return k < length ? at(finished, k) : NONE;
        }
    }

    /** The TIME; its dates are worked out when they are asked for, as most never are. */
    private static final class Clock {
        static final int DAY_MINUTES = 24 * 60;
        static final int MOST_OFFSET = 28;
        /** From 1 March of the year 0 to DAY 0. */
        static final int DAYS_AHEAD = 678881;
        static final int ERA_YEARS = 400;
        static final int ERA_DAYS = 146097;
        /** The weekday of DAY 0. */
        static final int WEDNESDAY = 2;
        static final int YEAR = 0;
        static final int MONTH = 1;
        static final int DAY_OF_MONTH = 2;

        int day;
        int hour;
        int minute;
        int offset;
        int completed;

        void clear() {
            completed = 0;
        }

        void take(int b, int c, int d) {
            int newHour = field(c, 0, 1) << 4 | field(d, 12, 4);
            int newMinute = field(d, 6, 6);
            int halfHours = field(d, 0, 5);
            if (newHour > 23 || newMinute > 59 || halfHours > MOST_OFFSET) {
                return;
            }
            day = field(b, 0, 2) << 15 | field(c, 1, 15);
            hour = newHour;
            minute = newMinute;
            offset = field(d, 5, 1) == 1 ? -halfHours : halfHours;
            completed++;
        }

        int tell(int what) {
            if (completed == 0) {
                return NONE;
            }
            switch (what) {
                case 0: return day;
                case 1: return hour;
                case 2: return minute;
                case 3: return offset;
                case 4: return datePart(day, YEAR);
                case 5: return datePart(day, MONTH);
                case 6: return datePart(day, DAY_OF_MONTH);
                case 7: return Math.floorMod(day + WEDNESDAY, 7);
                case 8: return datePart(localDay(), YEAR);
                case 9: return datePart(localDay(), MONTH);
                case 10: return datePart(localDay(), DAY_OF_MONTH);
                case 11: return Math.floorMod(localMinutes(), DAY_MINUTES) / 60;
                case 12: return Math.floorMod(localMinutes(), 60);
                default: return NONE;
            }
        }

        private int localMinutes() {
            return hour * 60 + minute + 30 * offset;
        }

        private int localDay() {
            return day + Math.floorDiv(localMinutes(), DAY_MINUTES);
        }

        /** Counted in years that begin in March: their leap day is their last one. */
        private static int datePart(int day, int part) {
            int days = day + DAYS_AHEAD;
            int era = Math.floorDiv(days, ERA_DAYS);
            int eraDay = Math.floorMod(days, ERA_DAYS);
            int year = (eraDay - eraDay / 1460 + eraDay / 36524 - eraDay / 146096) / 365;
            int yearDay = eraDay - (365 * year + year / 4 - year / 100);
            // From March on, each five months have 153 days.
            int month = (5 * yearDay + 2) / 153;
            switch (part) {
                case YEAR: return ERA_YEARS * era + year + (month < 10 ? 0 : 1);
                case MONTH: return month < 10 ? month + 3 : month - 9;
                default: return yearDay - (153 * month + 2) / 5 + 1;
            }
        }
    }

    /** The ODAS, by when they first came. */
    private static final class Odas {
        static final int MOST = 8;

        final int[] aids = new int[MOST];
        final int[] types = new int[MOST];
        final int[] words = new int[MOST];
        int size;

        void clear() {
            size = 0;
        }

        void take(int aid, int type, int word) {
            int k = indexOf(aid);
            if (k == NONE) {
                k = append();
            }
            if (k >= 0 && k < MOST) {
                aids[k] = aid;
                types[k] = type;
                words[k] = word;
            }
        }

        private int append() {
            if (size >= MOST) {
                System.arraycopy(aids, 1, aids, 0, MOST - 1);
                System.arraycopy(types, 1, types, 0, MOST - 1);
                System.arraycopy(words, 1, words, 0, MOST - 1);
                return MOST - 1;
            }
            size++;
            return size - 1;
        }

        private int indexOf(int aid) {
            for (int k = 0; k < MOST && k < size; k++) {
                if (aids[k] == aid) {
                    return k;
                }
            }
            return NONE;
        }

        /** The TYPE times 2 and version that an AID's ODA tells; NONE without it. */
        int typeOf(int aid) {
            return at(types, indexOf(aid));
        }

        int tell(int k, int what) {
            if (k >= size) {
                return NONE;
            }
            switch (what) {
                case 0: return at(aids, k);
                case 1: return at(types, k);
                case 2: return at(words, k);
                default: return NONE;
            }
        }
    }

    /** What is told of ANOTHER programme. */
    private static final class Other {
        static final int PI = 0;
        static final int TP = 1;
        static final int PTY = 2;
        static final int TA = 3;
        static final int PIN = 4;
        static final int LINK = 5;
        static final int AF_BYTES = 6;
        static final int MAPPED = 7;
        static final int FACTS = 11;
        static final int NAME_REPORTS = 11;

        final int[] facts = new int[FACTS];
        final Draft name = new Draft(4, 2, NONE);

        void begin(int identity) {
            Arrays.fill(facts, NONE);
            facts[PI] = identity;
            name.clear();
        }

        void takeVariant(int variant, int c) {
            switch (variant) {
                case 0: case 1: case 2: case 3: name.take(variant, 2, c); break;
                case 4: facts[AF_BYTES] = c; break;
                case 5: case 6: case 7: case 8: facts[MAPPED + variant - 5] = c; break;
                case 12: facts[LINK] = c; break;
                case 13:
                    facts[PTY] = field(c, 11, 5);
                    facts[TA] = field(c, 0, 1);
                    break;
                case 14: facts[PIN] = c; break;
                default: break;
            }
        }

        int tell(int what) {
            return what == NAME_REPORTS ? name.completed : at(facts, what);
        }
    }

    /** The OTHERS, by when they first came; rows that are not in use stand behind them. */
    private static final class Others {
        static final int MOST = 8;

        final Other[] rows = new Other[MOST];
        int size;

        Others() {
            for (int k = 0; k < MOST; k++) {
                rows[k] = new Other();
            }
        }

        void clear() {
            size = 0;
        }

        Other get(int k) {
            return k < 0 || k >= size || k >= MOST ? null : rows[k];
        }

        /** The one of a PI, made if it isn't there. */
        Other find(int identity) {
            for (int k = 0; k < size; k++) {
                Other row = get(k);
                if (row != null && row.tell(Other.PI) == identity) {
                    return row;
                }
            }
            Other added = append();
            if (added != null) {
                added.begin(identity);
            }
            return added;
        }

        private Other append() {
            if (size < MOST) {
                size++;
                return get(size - 1);
            }
            Other oldest = rows[0];
            for (int k = 1; k < MOST; k++) {
                rows[k - 1] = rows[k];
            }
            rows[MOST - 1] = oldest;
            return oldest;
        }
    }

    /** The two TAGS that name pieces of the TEXT. */
    private static final class Tags {
        static final int TOGGLE = 0;
        static final int RUNNING = 1;
        static final int FIRST = 2;
        static final int SECOND = 5;
        static final int FACTS = 8;
        static final int BEGIN = 1;
        static final int MORE = 2;

        final int[] facts = new int[FACTS];
        int completed;

        Tags() {
            Arrays.fill(facts, NONE);
        }

        void clear() {
            Arrays.fill(facts, NONE);
            completed = 0;
        }

        void take(int b, int c, int d) {
            facts[TOGGLE] = field(b, 4, 1);
            facts[RUNNING] = field(b, 3, 1);
            facts[FIRST] = field(b, 0, 3) << 3 | field(c, 13, 3);
            facts[FIRST + BEGIN] = field(c, 7, 6);
            facts[FIRST + MORE] = field(c, 1, 6);
            facts[SECOND] = field(c, 0, 1) << 5 | field(d, 11, 5);
            facts[SECOND + BEGIN] = field(d, 5, 6);
            facts[SECOND + MORE] = field(d, 0, 5);
            completed++;
        }

        /** Byte k of the piece of the TEXT that a TAG (FIRST or SECOND) names. */
        int byteOf(int which, int k, Draft text) {
            int type = at(facts, which);
            if (type == NONE || type == 0 || k < 0 || k > at(facts, which + MORE)) {
                return NONE;
            }
            return text.byteAt(at(facts, which + BEGIN) + k);
        }
    }
}
