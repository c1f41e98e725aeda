/** Cowbells as names: an ALP of BELLS told in a TEXT, and what can be asked of it (see the document's promises). */
public final class BellNames {
    public static final int UNKNOWN = -1, OUTSIDE = -2, STATE = -3, FULL = -4, NONE = -9;
    public static final long LOST = Long.MIN_VALUE;

    private static final int NULL = 1, CAST = 2, INDEX = 3, SIZE = 4;
    private static final int PLAIN = 0, CRACKED = 1, STUFFED = 2;
    private static final int SPOTS = 10, NOTES = 10, MOODS = 4, KINDS = 3, WINDS = 3, REACHES = 10, SOUNDS = 20;
    private static final int MOST_BELLS = 5, MOST_READINGS = 8, MOST_PAIRS = 20;
    private static final int SHEETS = 4, LANES = 3, MOST_CELLS = 60;
    private static final int FIRST_BELL_QUESTION = 10;

    private final Sheet[] sheets = new Sheet[SHEETS];
    private final Herd herd = new Herd();
    private final Readings readings = new Readings();
    private final Families families = new Families();
    private final Walk walk = new Walk();
    private int traceLeft = 0;
    private int lastFault = 0;

    public BellNames() {
        for (int k = 0; k < SHEETS; k++) {
            sheets[k] = new Sheet();
        }
    }

    // ---- 1 the alp

    public int alp(int sheet, int lane, int i, int n) {
        lastFault = 0;
        if (!isBelow(sheet, SHEETS)) return UNKNOWN;
        if (!isBelow(lane, LANES)) return OUTSIDE;
        Sheet text = sheets[sheet];
        int fault = text.faultAs(lane);
        if (fault != 0) return failBy(fault);
        if (n < 0) return failBy(SIZE);
        if (!text.hasCells(i, n)) return failBy(INDEX);
        int place = Text.firstFault(text, i, n);
        if (place != NONE) return -100 - place;
        herd.settle(text, i, n);
        readings.count = 0;
        return herd.count;
    }

    public int ofBell(int b, int what) {
        if (!herd.hasBell(b)) return UNKNOWN;
        switch (what) {
            case 0: return herd.kindOf[b];
            case 1: return herd.noteOf[b];
            case 2: return herd.spotOf[b];
            case 3: return herd.moodOf[b];
            default: return OUTSIDE;
        }
    }

    public int cheer(int b, int v) {
        if (!herd.hasBell(b)) return UNKNOWN;
        if (!isBelow(v, MOODS)) return OUTSIDE;
        return exchange(herd.moodOf, b, v);
    }

    public int recast(int b, int v) {
        if (!herd.hasBell(b)) return UNKNOWN;
        if (!isBelow(v, NOTES)) return OUTSIDE;
        return exchange(herd.noteOf, b, v);
    }

    public int go(int b, int spot) {
        if (!herd.hasBell(b)) return UNKNOWN;
        if (!isBelow(spot, SPOTS)) return OUTSIDE;
        return exchange(herd.spotOf, b, spot);
    }

    public int blow(int v) {
        if (!isBelow(v, WINDS)) return OUTSIDE;
        if (herd.isNone()) return STATE;
        int was = herd.wind;
        herd.wind = v;
        return was;
    }

    public int sound(int b, int mood) {
        if (!herd.hasBell(b)) return UNKNOWN;
        if (mood == NONE) return herd.soundNow(b);
        if (!isBelow(mood, MOODS)) return OUTSIDE;
        return herd.soundIn(b, mood);
    }

    // ---- 2 who is heard

    public int heard(int spot) {
        if (!isBelow(spot, SPOTS)) return OUTSIDE;
        if (herd.isNone()) return STATE;
        return herd.heardFrom(herd.spotOf, spot);
    }

    public int taken(int spot, int v) {
        if (!isBelow(spot, SPOTS) || !isBelow(v, SOUNDS)) return OUTSIDE;
        if (herd.isNone()) return STATE;
        int nearest = NONE;
        int leastOff = SOUNDS;
        for (int b = 0; b < herd.count; b++) {
            int off = Math.abs(herd.soundNow(b) - v);
            if (herd.isHeard(b, spot) && off < leastOff) {
                nearest = b;
                leastOff = off;
            }
        }
        return nearest;
    }

    public int meant(int spot, int v) {
        if (!isBelow(spot, SPOTS) || !isBelow(v, SOUNDS)) return OUTSIDE;
        if (herd.isNone()) return STATE;
        int set = 0;
        for (int b = 0; b < herd.count; b++) {
            if (herd.isHeard(b, spot) && herd.moodsSounding(b, v) > 0) {
                set |= 1 << b;
            }
        }
        return set;
    }

    public int family(int b) {
        if (!herd.hasBell(b)) return UNKNOWN;
        for (int other = 0; other < herd.count; other++) {
            families.sounds[other] = herd.soundNow(other);
        }
        return families.familyOf(b, herd.count);
    }

    public int goings(int sheet, int lane, int i, int n, int what) {
        lastFault = 0;
        if (!isBelow(sheet, SHEETS)) return UNKNOWN;
        if (!isBelow(lane, LANES) || !isBelow(n, MOST_PAIRS + 1) || !isOfGoings(what)) return OUTSIDE;
        Sheet pairs = sheets[sheet];
        int fault = pairs.faultAs(lane);
        if (fault != 0) return failBy(fault);
        if (!pairs.hasCells(i, 2 * n)) return failBy(INDEX);
        if (herd.isNone()) return STATE;
        int refusal = walk.goAll(herd, pairs, i, n);
        if (refusal != 0) return refusal;
        return ofWalk(what);
    }

    // ---- 3 calls, choirs

    public int post(int set) {
        if (herd.isNone()) return STATE;
        if (!herd.hasAll(set)) return OUTSIDE;
        for (int spot = 0; spot < SPOTS; spot++) {
            if ((set & ~herd.heardFrom(herd.spotOf, spot)) == 0) return spot;
        }
        return NONE;
    }

    public int call(int set, int what) {
        if (herd.isNone()) return STATE;
        if (!herd.hasAll(set) || !isBelow(what, 2)) return OUTSIDE;
        int best = 0;
        for (int spot = 1; spot < SPOTS; spot++) {
            if (herd.stepsToHear(set, spot) < herd.stepsToHear(set, best)) {
                best = spot;
            }
        }
        return what == 0 ? best : herd.stepsToHear(set, best);
    }

    public int cast(int b) {
        if (!herd.hasBell(b)) return UNKNOWN;
        int others = 0;
        for (int other = 0; other < herd.count; other++) {
            if (other != b) {
                others |= herd.soundSet(herd.kindOf[other], herd.noteOf[other]);
            }
        }
        for (int note = 0; note < NOTES; note++) {
            if ((herd.soundSet(herd.kindOf[b], note) & others) == 0) return note;
        }
        return NONE;
    }

    public int choir(int k) {
        if (herd.isNone()) return STATE;
        if (k < -1 || k >= MOST_BELLS) return OUTSIDE;
        if (k >= herd.count || !families.findChoir(herd)) return NONE;
        return k == -1 ? families.changed : families.moods[k];
    }

    // ---- 4 how they sounded

    public int reading(int b, int mood, int v) {
        if (!herd.hasBell(b)) return UNKNOWN;
        if (!isBelow(mood, MOODS) || !isBelow(v, SOUNDS)) return OUTSIDE;
        if (readings.count >= MOST_READINGS) return FULL;
        return readings.keep(b, mood, v);
    }

    public int back(int k) {
        if (k < 0 || k > readings.count) return OUTSIDE;
        readings.count -= k;
        return readings.count;
    }

    public int notes(int b) {
        if (!herd.hasBell(b)) return UNKNOWN;
        int set = 0;
        for (int note = 0; note < NOTES; note++) {
            if (readings.areSo(herd, b, herd.kindOf[b], note, herd.wind)) {
                set |= 1 << note;
            }
        }
        return set;
    }

    public int kinds(int b) {
        if (!herd.hasBell(b)) return UNKNOWN;
        int set = 0;
        for (int kind = 0; kind < KINDS; kind++) {
            if (readings.areSo(herd, b, kind, herd.noteOf[b], herd.wind)) {
                set |= 1 << kind;
            }
        }
        return set;
    }

    public int winds() {
        if (herd.isNone()) return STATE;
        int set = 0;
        for (int wind = 0; wind < WINDS; wind++) {
            if (readings.areSo(herd, 0, herd.kindOf[0], herd.noteOf[0], wind)) {
                set |= 1 << wind;
            }
        }
        return set;
    }

    public long odds(int spot, int v, int which) {
        if (!isBelow(spot, SPOTS) || !isBelow(v, SOUNDS) || !isBelow(which, 2)) return LOST;
        if (herd.isNone()) return LOST;
        int lower = 1;
        int silent = 1;
        for (int b = 0; b < herd.count; b++) {
            if (herd.isHeard(b, spot)) {
                lower *= MOODS;
                silent *= MOODS - herd.moodsSounding(b, v);
            }
        }
        int upper = lower - silent;
        // The lower number is a power of 2, so halving alone brings the share to least terms.
        while (lower > 1 && upper % 2 == 0) {
            upper /= 2;
            lower /= 2;
        }
        return which == 0 ? upper : lower;
    }

    // ---- 5 sheets, parts

    public int sheet(int k, int lane, int n) {
        lastFault = 0;
        if (!isBelow(k, SHEETS)) return UNKNOWN;
        if (!isBelow(lane, LANES) || n > MOST_CELLS) return OUTSIDE;
        if (n < 0) return failBy(SIZE);
        sheets[k].renew(lane, n);
        return 1;
    }

    public int lose(int k) {
        if (!isBelow(k, SHEETS)) return UNKNOWN;
        if (sheets[k].hasNothing()) return 0;
        sheets[k].drop();
        return 1;
    }

    public int put(int k, int i, int v) {
        lastFault = 0;
        if (!isBelow(k, SHEETS)) return UNKNOWN;
        if (sheets[k].hasNothing()) return failBy(NULL);
        if (!sheets[k].hasCells(i, 1)) return failBy(INDEX);
        sheets[k].write(i, v);
        return 1;
    }

    public long cell(int k, int i, int lane) {
        lastFault = 0;
        if (!isBelow(k, SHEETS) || !isBelow(lane, LANES)) return LOST;
        int fault = sheets[k].faultAs(lane);
        if (fault == 0 && !sheets[k].hasCells(i, 1)) {
            fault = INDEX;
        }
        if (fault != 0) {
            lastFault = fault;
            return LOST;
        }
        return sheets[k].row[i];
    }

    public int copy(int k, int i, int other, int j, int n) {
        lastFault = 0;
        if (!isBelow(k, SHEETS) || !isBelow(other, SHEETS)) return UNKNOWN;
        Sheet from = sheets[k];
        Sheet to = sheets[other];
        if (from.hasNothing() || to.hasNothing()) return failBy(NULL);
        if (from.lane != to.lane) return failBy(CAST);
        if (!from.hasCells(i, n) || !to.hasCells(j, n)) return failBy(INDEX);
        System.arraycopy(from.row, i, to.row, j, n);
        return n;
    }

    public int tell(int b) {
        if (!herd.hasBell(b)) return UNKNOWN;
        switch (herd.kindOf[b]) {
            case STUFFED: return stuffedBody(b);
            case CRACKED: return crackedBody(b);
            default: return plainBody(b);
        }
    }

    public int echo(int b) {
        if (!herd.hasBell(b)) return UNKNOWN;
        if (herd.kindOf[b] == STUFFED) {
            leave(5);
            return 20;
        }
        leave(4);
        return b;
    }

    public int as(int b, int kind) {
        lastFault = 0;
        if (!herd.hasBell(b)) return UNKNOWN;
        if (!isBelow(kind, KINDS)) return OUTSIDE;
        // Each kind is one of every kind with a lesser number.
        if (kind > herd.kindOf[b]) return failBy(CAST);
        return 1;
    }

    public int trace() {
        return traceLeft;
    }

    public int fault() {
        return lastFault;
    }

    public int many(int what) {
        switch (what) {
            case 0: return herd.count;
            case 1: return herd.wind;
            case 2: return herd.reach;
            case 3: return readings.count;
            default: return OUTSIDE;
        }
    }

    // ---- what the calls share

    private static boolean isBelow(int v, int bound) {
        return v >= 0 && v < bound;
    }

    private static int exchange(int[] row, int i, int v) {
        int was = row[i];
        row[i] = v;
        return was;
    }

    private int failBy(int fault) {
        lastFault = fault;
        return -10 - fault;
    }

    private static int soundOf(int kind, int note, int mood, int wind) {
        int plain = note + mood + wind;
        switch (kind) {
            case CRACKED: return Math.max(plain - 1, 0);
            case STUFFED: return plain / 2;
            default: return plain;
        }
    }

    private static boolean isOfGoings(int what) {
        return isBelow(what, 4) || isBelow(what - FIRST_BELL_QUESTION, MOST_BELLS);
    }

    private int ofWalk(int what) {
        if (what == 1) return walk.firstWrong;
        if (walk.firstWrong != NONE) return -100 - walk.firstWrong;
        if (what == 0) return Integer.bitCount(herd.heardFrom(walk.spotOf, 0));
        if (what == 2) return walk.steps;
        if (what == 3) return loudestSpot();
        int b = what - FIRST_BELL_QUESTION;
        return herd.hasBell(b) ? walk.spotOf[b] : NONE;
    }

    /** The least SPOT at which the most are HEARD behind the goings. */
    private int loudestSpot() {
        int best = 0;
        int most = 0;
        for (int spot = 0; spot < SPOTS; spot++) {
            int many = Integer.bitCount(herd.heardFrom(walk.spotOf, spot));
            if (many > most) {
                best = spot;
                most = many;
            }
        }
        return best;
    }

    private void leave(int number) {
        traceLeft = 31 * traceLeft + number;
    }

    private int plainBody(int b) {
        leave(1);
        return herd.noteOf[b];
    }

    private int crackedBody(int b) {
        leave(2);
        return plainBody(b) + 100;
    }

    private int stuffedBody(int b) {
        leave(3);
        int cracked = crackedBody(b);
        return cracked + plainBody(b);
    }

    /** A SHEET: its row is made once and used again, so that no call makes anything. */
    private static final class Sheet {
        final int[] row = new int[MOST_CELLS];
        int lane = NONE;
        int size = 0;

        boolean hasNothing() {
            return lane == NONE;
        }

        void renew(int newLane, int n) {
            lane = newLane;
            size = n;
            for (int i = 0; i < MOST_CELLS; i++) {
                row[i] = 0;
            }
        }

        void drop() {
            lane = NONE;
            size = 0;
        }

        /** The FAULT that comes of taking it as a row of the LANE; 0: none. */
        int faultAs(int asLane) {
            if (hasNothing()) return NULL;
            return lane == asLane ? 0 : CAST;
        }

        boolean hasCells(int i, int n) {
            // i + n could wrap, size less i can't behind the tests ahead of it.
            return i >= 0 && i <= size && n >= 0 && n <= size - i;
        }

        void write(int i, int v) {
            switch (lane) {
                case 0: row[i] = (byte) v; break;
                case 1: row[i] = (short) v; break;
                default: row[i] = v;
            }
        }
    }

    /** How a TEXT is built: what stands at a place depends on the place alone. */
    private static final class Text {
        private static final int HEAD = 3, A_BELL = 5;

        /** NONE, if the cells are a TEXT. */
        static int firstFault(Sheet text, int i, int n) {
            for (int place = 0; place < n; place++) {
                if (!fits(place, text.row[i + place])) return place;
            }
            boolean isWhole = n > HEAD && (n - HEAD) % A_BELL == 0;
            return isWhole ? NONE : n;
        }

        private static boolean fits(int place, int code) {
            if (place == 0) return code == 'b';
            if (place == 1) return isBelow(code - '0', WINDS);
            if (place == 2) return isBelow(code - '0', REACHES);
            if (place >= startOf(MOST_BELLS)) return false;
            switch ((place - HEAD) % A_BELL) {
                case 0: return code == ';';
                case 1: return kindBy(code) != NONE;
                case 2: return isBelow(code - '0', NOTES);
                case 3: return isBelow(code - '0', SPOTS);
                default: return isBelow(code - '0', MOODS);
            }
        }

        static int startOf(int b) {
            return HEAD + A_BELL * b;
        }

        static int bellsOf(int n) {
            return (n - HEAD) / A_BELL;
        }

        static int kindBy(int code) {
            switch (code) {
                case 'p': return PLAIN;
                case 'k': return CRACKED;
                case 'h': return STUFFED;
                default: return NONE;
            }
        }
    }

    /** The ALP: its BELLS, WIND and REACH; without an ALP there are no BELLS. */
    private static final class Herd {
        final int[] kindOf = new int[MOST_BELLS];
        final int[] noteOf = new int[MOST_BELLS];
        final int[] spotOf = new int[MOST_BELLS];
        final int[] moodOf = new int[MOST_BELLS];
        int count = 0;
        int wind = 0;
        int reach = 0;

        boolean isNone() {
            return count == 0;
        }

        boolean hasBell(int b) {
            return isBelow(b, count);
        }

        boolean hasAll(int set) {
            return isBelow(set, 1 << count);
        }

        /** The n cells are known to be a TEXT. */
        void settle(Sheet text, int i, int n) {
            wind = text.row[i + 1] - '0';
            reach = text.row[i + 2] - '0';
            count = Text.bellsOf(n);
            for (int b = 0; b < count; b++) {
                int at = i + Text.startOf(b);
                kindOf[b] = Text.kindBy(text.row[at + 1]);
                noteOf[b] = text.row[at + 2] - '0';
                spotOf[b] = text.row[at + 3] - '0';
                moodOf[b] = text.row[at + 4] - '0';
            }
        }

        int soundIn(int b, int mood) {
            return soundOf(kindOf[b], noteOf[b], mood, wind);
        }

        int soundNow(int b) {
            return soundIn(b, moodOf[b]);
        }

        /** The SOUNDS that a BELL of the kind and NOTE has in all MOODS by the WIND that blows, as a set. */
        int soundSet(int kind, int note) {
            int set = 0;
            for (int mood = 0; mood < MOODS; mood++) {
                set |= 1 << soundOf(kind, note, mood, wind);
            }
            return set;
        }

        /** How far a BELL has to go from where it is at so that it is HEARD at the SPOT. */
        private int stepsFrom(int at, int spot) {
            return Math.max(Math.abs(at - spot) - reach, 0);
        }

        boolean isHeard(int b, int spot) {
            return stepsFrom(spotOf[b], spot) == 0;
        }

        /** Those HEARD at the SPOT, if the BELLS were at the places told. */
        int heardFrom(int[] places, int spot) {
            int set = 0;
            for (int b = 0; b < count; b++) {
                if (stepsFrom(places[b], spot) == 0) {
                    set |= 1 << b;
                }
            }
            return set;
        }

        int stepsToHear(int set, int spot) {
            int steps = 0;
            for (int b = 0; b < count; b++) {
                if ((set >> b & 1) == 1) {
                    steps += stepsFrom(spotOf[b], spot);
                }
            }
            return steps;
        }

        int moodsSounding(int b, int v) {
            int many = 0;
            for (int mood = 0; mood < MOODS; mood++) {
                if (soundIn(b, mood) == v) many++;
            }
            return many;
        }
    }

    /** Goings tried out: where each BELL is behind them, while the ALP stays as it is. */
    private static final class Walk {
        final int[] spotOf = new int[MOST_BELLS];
        int steps = 0;
        int firstWrong = NONE;

        /** The refusal of the first pair that is not as told; 0: there is none. */
        int goAll(Herd herd, Sheet pairs, int i, int n) {
            System.arraycopy(herd.spotOf, 0, spotOf, 0, MOST_BELLS);
            steps = 0;
            firstWrong = NONE;
            for (int p = 0; p < n; p++) {
                int b = pairs.row[i + 2 * p];
                int to = pairs.row[i + 2 * p + 1];
                if (!herd.hasBell(b)) return UNKNOWN;
                if (!isBelow(to, SPOTS)) return OUTSIDE;
                int off = Math.abs(spotOf[b] - to);
                if (off == 0 && firstWrong == NONE) firstWrong = p;
                steps += off;
                spotOf[b] = to;
            }
            return 0;
        }
    }

    /** FAMILIES among SOUNDS, and the MOODS by which all are of one. */
    private static final class Families {
        final int[] sounds = new int[MOST_BELLS];
        final int[] moods = new int[MOST_BELLS];
        int changed = 0;

        int familyOf(int b, int count) {
            int set = 1 << b;
            // Each round but the last brings one more BELL in, so count rounds are enough.
            for (int round = 0; round < count; round++) {
                int wider = set;
                for (int x = 0; x < count; x++) {
                    if ((set >> x & 1) == 1) wider |= kinOf(x, count);
                }
                if (wider == set) return set;
                set = wider;
            }
            return set;
        }

        private int kinOf(int x, int count) {
            int set = 0;
            for (int y = 0; y < count; y++) {
                if (Math.abs(sounds[x] - sounds[y]) == 2) set |= 1 << y;
            }
            return set;
        }

        /** Leaves the CHOIR in moods and changed; false: there is none. */
        boolean findChoir(Herd herd) {
            int rows = 1 << 2 * herd.count;
            int best = NONE;
            int fewest = MOST_BELLS + 1;
            // Rows are tried in their order, so the first with the fewest changes stays.
            for (int row = 0; row < rows; row++) {
                int many = changesOf(herd, row);
                if (many < fewest && isOneFamily(herd, row)) {
                    best = row;
                    fewest = many;
                }
            }
            if (best == NONE) return false;
            changed = fewest;
            for (int b = 0; b < herd.count; b++) {
                moods[b] = moodIn(best, b, herd.count);
            }
            return true;
        }

        /** A row of MOODS is a number with two bits a BELL, BELL 0 in the highest. */
        private static int moodIn(int row, int b, int count) {
            return row >> 2 * (count - 1 - b) & 3;
        }

        private static int changesOf(Herd herd, int row) {
            int many = 0;
            for (int b = 0; b < herd.count; b++) {
                if (moodIn(row, b, herd.count) != herd.moodOf[b]) many++;
            }
            return many;
        }

        private boolean isOneFamily(Herd herd, int row) {
            for (int b = 0; b < herd.count; b++) {
                sounds[b] = herd.soundIn(b, moodIn(row, b, herd.count));
            }
            return familyOf(0, herd.count) == (1 << herd.count) - 1;
        }
    }

    /** READINGS: which BELL had which SOUND in which MOOD. */
    private static final class Readings {
        final int[] bellOf = new int[MOST_READINGS];
        final int[] moodOf = new int[MOST_READINGS];
        final int[] soundHeard = new int[MOST_READINGS];
        int count = 0;

        int keep(int b, int mood, int v) {
            bellOf[count] = b;
            moodOf[count] = mood;
            soundHeard[count] = v;
            count++;
            return count - 1;
        }

        /** Whether all are so, if BELL b were of the kind and NOTE told and the WIND were the one told. */
        boolean areSo(Herd herd, int b, int kind, int note, int wind) {
            for (int r = 0; r < count; r++) {
                int x = bellOf[r];
                int itsKind = x == b ? kind : herd.kindOf[x];
                int itsNote = x == b ? note : herd.noteOf[x];
                if (soundOf(itsKind, itsNote, moodOf[r], wind) != soundHeard[r]) return false;
            }
            return true;
        }
    }
}
