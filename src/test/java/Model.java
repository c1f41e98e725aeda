import java.util.ArrayList;
import java.util.List;
import java.util.TreeSet;
import java.util.function.IntPredicate;
import java.util.regex.Matcher;
import java.util.regex.Pattern;

/**
 * A second program of the document, written another way than BellNames: with classes for kinds, rows of real lanes, and
 * the machine's own exceptions as FAULTS.
 */
final class Model {
    private static final int UNKNOWN = -1, OUTSIDE = -2, STATE = -3, FULL = -4, NONE = -9;
    private static final long LOST = Long.MIN_VALUE;

    static class Plain {
        int number, note, spot, mood;

        int soundBy(int n, int m, int w) { return n + m + w; }
        int told(Model x) { x.leave(1); return note; }
        int echoed(Model x) { x.leave(4); return number; }
        final int plainTold(Model x) { x.leave(1); return note; }
    }

    static class Cracked extends Plain {
        @Override int soundBy(int n, int m, int w) { return n + m + w == 0 ? 0 : n + m + w - 1; }
        @Override int told(Model x) { x.leave(2); return super.told(x) + 100; }
    }

    static final class Stuffed extends Cracked {
        @Override int soundBy(int n, int m, int w) { return (n + m + w) >> 1; }
        @Override int told(Model x) { x.leave(3); int c = super.told(x); return c + plainTold(x); }
        @Override int echoed(Model x) { x.leave(5); return 20; }
    }

    static final Pattern TEXT = Pattern.compile("b[0-2][0-9](;[pkh][0-9][0-9][0-3]){1,5}");
    static final Plain[] KINDS = {new Plain(), new Cracked(), new Stuffed()};
    static final Class<?>[] ROWS = {byte[].class, short[].class, int[].class};

    final Object[] sheets = new Object[4];
    final List<int[]> readings = new ArrayList<>();
    List<Plain> bells = new ArrayList<>();
    int wind, reach, trace, fault;

    void leave(int number) { trace = trace * 31 + number; }

    int failed(RuntimeException e) {
        fault = e instanceof NullPointerException ? 1 : e instanceof ClassCastException ? 2
            : e instanceof NegativeArraySizeException ? 4 : 3;
        return -10 - fault;
    }

    static int at(Object row, int i) {
        return row instanceof byte[] b ? b[i] : row instanceof short[] s ? s[i] : ((int[]) row)[i];
    }

    static int lengthOf(Object row) {
        return java.lang.reflect.Array.getLength(row);
    }

    int[] taken(int k, int lane, int i, int n) {
        Object row = ROWS[lane].cast(sheets[k]);
        int length = lengthOf(row);
        int[] cells = new int[n];
        java.util.Objects.checkFromIndexSize(i, n, length);
        for (int c = 0; c < n; c++) cells[c] = at(row, i + c);
        return cells;
    }

    int alp(int k, int lane, int i, int n) {
        fault = 0;
        if (k < 0 || k > 3) return UNKNOWN;
        if (lane < 0 || lane > 2) return OUTSIDE;
        int[] codes;
        try {
            if (n > 60) {
                // A row so long would be too much for the machine; it is made shorter, but still too long.
                n = 61;
            }
            codes = taken(k, lane, i, n);
        } catch (RuntimeException e) {
            return failed(e);
        }
        StringBuilder s = new StringBuilder();
        for (int code : codes) s.append(code >= 0 && code < 128 ? (char) code : '?');
        for (int p = 1; p <= n; p++) {
            Matcher m = TEXT.matcher(s.substring(0, p));
            if (!m.matches() && !m.hitEnd()) return -100 - (p - 1);
        }
        if (!TEXT.matcher(s).matches()) return -100 - n;
        wind = s.charAt(1) - '0';
        reach = s.charAt(2) - '0';
        bells = new ArrayList<>();
        readings.clear();
        for (String told : s.substring(4).split(";")) {
            Plain bell = told.charAt(0) == 'p' ? new Plain() : told.charAt(0) == 'k' ? new Cracked() : new Stuffed();
            bell.number = bells.size();
            bell.note = told.charAt(1) - '0';
            bell.spot = told.charAt(2) - '0';
            bell.mood = told.charAt(3) - '0';
            bells.add(bell);
        }
        return bells.size();
    }

    boolean none(int b) { return b < 0 || b >= bells.size(); }
    boolean none() { return bells.isEmpty(); }
    static boolean off(int v, int most) { return v < 0 || v > most; }
    Plain bell(int b) { return bells.get(b); }
    int sounds(int b, int mood) { return bell(b).soundBy(bell(b).note, mood, wind); }
    int sounds(int b) { return sounds(b, bell(b).mood); }

    int kind(int b) { return bell(b) instanceof Stuffed ? 2 : bell(b) instanceof Cracked ? 1 : 0; }

    int ofBell(int b, int what) {
        if (none(b)) return UNKNOWN;
        if (off(what, 3)) return OUTSIDE;
        return new int[] {kind(b), bell(b).note, bell(b).spot, bell(b).mood}[what];
    }

    int cheer(int b, int v) {
        if (none(b)) return UNKNOWN;
        if (off(v, 3)) return OUTSIDE;
        int was = bell(b).mood;
        bell(b).mood = v;
        return was;
    }

    int recast(int b, int v) {
        if (none(b)) return UNKNOWN;
        if (off(v, 9)) return OUTSIDE;
        int was = bell(b).note;
        bell(b).note = v;
        return was;
    }

    int go(int b, int v) {
        if (none(b)) return UNKNOWN;
        if (off(v, 9)) return OUTSIDE;
        int was = bell(b).spot;
        bell(b).spot = v;
        return was;
    }

    int blow(int v) {
        if (off(v, 2)) return OUTSIDE;
        if (none()) return STATE;
        int was = wind;
        wind = v;
        return was;
    }

    int sound(int b, int mood) {
        if (none(b)) return UNKNOWN;
        if (mood != NONE && off(mood, 3)) return OUTSIDE;
        return mood == NONE ? sounds(b) : sounds(b, mood);
    }

    int setOf(IntPredicate is) {
        int set = 0;
        for (int b = 0; b < bells.size(); b++) if (is.test(b)) set += 1 << b;
        return set;
    }

    boolean hears(int spot, int at) { return spot - at <= reach && at - spot <= reach; }

    int heard(int spot) {
        if (off(spot, 9)) return OUTSIDE;
        if (none()) return STATE;
        return setOf(b -> hears(spot, bell(b).spot));
    }

    int taken(int spot, int v) {
        if (off(spot, 9) || off(v, 19)) return OUTSIDE;
        if (none()) return STATE;
        for (int off = 0; off < 40; off++) {
            for (int b = 0; b < bells.size(); b++) {
                if (hears(spot, bell(b).spot) && Math.abs(sounds(b) - v) == off) return b;
            }
        }
        return NONE;
    }

    TreeSet<Integer> allSounds(int b) {
        TreeSet<Integer> all = new TreeSet<>();
        for (int m = 0; m < 4; m++) all.add(sounds(b, m));
        return all;
    }

    int meant(int spot, int v) {
        if (off(spot, 9) || off(v, 19)) return OUTSIDE;
        if (none()) return STATE;
        return setOf(b -> hears(spot, bell(b).spot) && allSounds(b).contains(v));
    }

    /** By who can be come to from whom (Warshall), not by growing a set. */
    boolean[][] families(int[] sounds) {
        int n = sounds.length;
        boolean[][] to = new boolean[n][n];
        for (int x = 0; x < n; x++) {
            for (int y = 0; y < n; y++) to[x][y] = x == y || Math.abs(sounds[x] - sounds[y]) == 2;
        }
        for (int z = 0; z < n; z++) {
            for (int x = 0; x < n; x++) {
                for (int y = 0; y < n; y++) to[x][y] |= to[x][z] && to[z][y];
            }
        }
        return to;
    }

    int family(int b) {
        if (none(b)) return UNKNOWN;
        int[] now = new int[bells.size()];
        for (int x = 0; x < now.length; x++) now[x] = sounds(x);
        boolean[] its = families(now)[b];
        return setOf(x -> its[x]);
    }

    int goings(int k, int lane, int i, int n, int what) {
        fault = 0;
        if (off(k, 3)) return UNKNOWN;
        if (off(lane, 2) || off(n, 20) || what < 0 || what > 14 || what > 3 && what < 10) return OUTSIDE;
        int[] cells;
        try {
            cells = taken(k, lane, i, 2 * n);
        } catch (RuntimeException e) {
            return failed(e);
        }
        if (none()) return STATE;
        for (int p = 0; p < n; p++) {
            if (none(cells[2 * p])) return UNKNOWN;
            if (off(cells[2 * p + 1], 9)) return OUTSIDE;
        }
        int[] at = new int[bells.size()];
        for (int b = 0; b < at.length; b++) at[b] = bell(b).spot;
        int steps = 0;
        for (int p = 0; p < n; p++) {
            int b = cells[2 * p];
            int to = cells[2 * p + 1];
            if (at[b] == to) return what == 1 ? p : -100 - p;
            steps += Math.abs(at[b] - to);
            at[b] = to;
        }
        if (what == 1) return NONE;
        if (what == 2) return steps;
        if (what >= 10) return what - 10 < at.length ? at[what - 10] : NONE;
        int[] many = new int[10];
        for (int spot = 0; spot < 10; spot++) {
            for (int where : at) if (hears(spot, where)) many[spot]++;
        }
        if (what == 0) return many[0];
        for (int most = 5; most > 0; most--) {
            for (int spot = 0; spot < 10; spot++) if (many[spot] == most) return spot;
        }
        return 0;
    }

    int post(int set) {
        if (none()) return STATE;
        if (set < 0 || set >> bells.size() != 0) return OUTSIDE;
        for (int spot = 0; spot < 10; spot++) if ((heard(spot) & set) == set) return spot;
        return NONE;
    }

    int call(int set, int what) {
        if (none()) return STATE;
        if (set < 0 || set >> bells.size() != 0 || off(what, 1)) return OUTSIDE;
        for (int steps = 0; steps < 100; steps++) {
            for (int spot = 0; spot < 10; spot++) {
                int need = 0;
                for (Plain bell : bells) {
                    if ((set & 1 << bell.number) == 0) continue;
                    for (int at = bell.spot; !hears(spot, at); at += at < spot ? 1 : -1) need++;
                }
                if (need == steps) return what == 0 ? spot : steps;
            }
        }
        return 12345;
    }

    int cast(int b) {
        if (none(b)) return UNKNOWN;
        int own = bell(b).note;
        int found = NONE;
        for (int note = 9; note >= 0; note--) {
            bell(b).note = note;
            boolean free = true;
            for (Plain other : bells) {
                TreeSet<Integer> both = allSounds(b);
                both.retainAll(allSounds(other.number));
                if (other.number != b && !both.isEmpty()) free = false;
            }
            if (free) found = note;
        }
        bell(b).note = own;
        return found;
    }

    int[] bestMoods;
    int bestChanged;

    void search(int[] moods, int b, int changed) {
        if (b < moods.length) {
            for (int m = 0; m < 4; m++) {
                moods[b] = m;
                search(moods, b + 1, changed + (m == bell(b).mood ? 0 : 1));
            }
            return;
        }
        if (changed >= bestChanged) return;
        int[] all = new int[moods.length];
        for (int x = 0; x < all.length; x++) all[x] = sounds(x, moods[x]);
        for (boolean one : families(all)[0]) if (!one) return;
        bestChanged = changed;
        bestMoods = moods.clone();
    }

    int choir(int k) {
        if (none()) return STATE;
        if (k < -1 || k > 4) return OUTSIDE;
        bestMoods = null;
        bestChanged = 99;
        search(new int[bells.size()], 0, 0);
        if (bestMoods == null || k >= bells.size()) return NONE;
        return k < 0 ? bestChanged : bestMoods[k];
    }

    int reading(int b, int mood, int v) {
        if (none(b)) return UNKNOWN;
        if (off(mood, 3) || off(v, 19)) return OUTSIDE;
        if (readings.size() == 8) return FULL;
        readings.add(new int[] {b, mood, v});
        return readings.size() - 1;
    }

    int back(int k) {
        if (off(k, readings.size())) return OUTSIDE;
        for (; k > 0; k--) readings.remove(readings.size() - 1);
        return readings.size();
    }

    boolean allSo() {
        for (int[] r : readings) if (sounds(r[0], r[1]) != r[2]) return false;
        return true;
    }

    int notes(int b) {
        if (none(b)) return UNKNOWN;
        int own = bell(b).note;
        int set = 0;
        for (int v = 0; v < 10; v++) {
            bell(b).note = v;
            if (allSo()) set += 1 << v;
        }
        bell(b).note = own;
        return set;
    }

    int kinds(int b) {
        if (none(b)) return UNKNOWN;
        int set = 0;
        for (int kind = 0; kind < 3; kind++) {
            boolean so = true;
            for (int[] r : readings) {
                Plain by = r[0] == b ? KINDS[kind] : bell(r[0]);
                so &= by.soundBy(bell(r[0]).note, r[1], wind) == r[2];
            }
            if (so) set += 1 << kind;
        }
        return set;
    }

    int winds() {
        if (none()) return STATE;
        int own = wind;
        int set = 0;
        for (wind = 0; wind < 3; wind++) if (allSo()) set += 1 << wind;
        wind = own;
        return set;
    }

    long odds(int spot, int v, int which) {
        if (off(spot, 9) || off(v, 19) || off(which, 1) || none()) return LOST;
        int all = 1 << 2 * bells.size();
        int good = 0;
        for (int row = 0; row < all; row++) {
            boolean one = false;
            for (Plain bell : bells) {
                int mood = row >> 2 * bell.number & 3;
                one |= hears(spot, bell.spot) && sounds(bell.number, mood) == v;
            }
            if (one) good++;
        }
        int x = good;
        int y = all;
        while (x != 0) {
            int rest = y % x;
            y = x;
            x = rest;
        }
        return which == 0 ? good / y : all / y;
    }

    int sheet(int k, int lane, int n) {
        fault = 0;
        if (off(k, 3)) return UNKNOWN;
        if (off(lane, 2) || n > 60) return OUTSIDE;
        try {
            sheets[k] = lane == 0 ? new byte[n] : lane == 1 ? new short[n] : new int[n];
        } catch (NegativeArraySizeException e) {
            return failed(e);
        }
        return 1;
    }

    int lose(int k) {
        if (off(k, 3)) return UNKNOWN;
        int had = sheets[k] == null ? 0 : 1;
        sheets[k] = null;
        return had;
    }

    int put(int k, int i, int v) {
        fault = 0;
        if (off(k, 3)) return UNKNOWN;
        try {
            if (sheets[k] instanceof byte[] b) b[i] = (byte) v;
            else if (sheets[k] instanceof short[] s) s[i] = (short) v;
            else ((int[]) sheets[k])[i] = v;
        } catch (RuntimeException e) {
            return failed(e);
        }
        return 1;
    }

    long cell(int k, int i, int lane) {
        fault = 0;
        if (off(k, 3) || off(lane, 2)) return LOST;
        try {
            return at(ROWS[lane].cast(sheets[k]), i);
        } catch (RuntimeException e) {
            failed(e);
            return LOST;
        }
    }

    int copy(int k, int i, int other, int j, int n) {
        fault = 0;
        if (off(k, 3) || off(other, 3)) return UNKNOWN;
        try {
            System.arraycopy(sheets[k], i, sheets[other], j, n);
        } catch (ArrayStoreException e) {
            return failed(new ClassCastException());
        } catch (RuntimeException e) {
            return failed(e);
        }
        return n;
    }

    int tell(int b) { return none(b) ? UNKNOWN : bell(b).told(this); }
    int echo(int b) { return none(b) ? UNKNOWN : bell(b).echoed(this); }

    int as(int b, int kind) {
        fault = 0;
        if (none(b)) return UNKNOWN;
        if (off(kind, 2)) return OUTSIDE;
        try {
            KINDS[kind].getClass().cast(bell(b));
        } catch (ClassCastException e) {
            return failed(e);
        }
        return 1;
    }

    int many(int what) {
        return off(what, 3) ? OUTSIDE : new int[] {bells.size(), wind, reach, readings.size()}[what];
    }
}
