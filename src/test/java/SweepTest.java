import java.util.Arrays;

/** Every call with all its numbers at, beside and far off their bounds, in several states, beside the Model. */
public final class SweepTest extends Bench {
    private interface OnBell {
        long answer(BellNames x, int[] a);
    }

    private interface OnModel {
        long answer(Model m, int[] a);
    }

    private static final int[] SHEETS = {LEAST, -1, 0, 1, 2, 3, 4, GREATEST};
    private static final int[] LANES = {LEAST, -1, 0, 1, 2, 3, GREATEST};
    private static final int[] BELLS = {LEAST, -9, -1, 0, 1, 2, 4, 5, 32, GREATEST};
    private static final int[] MOODS = {LEAST, -10, -9, -8, -1, 0, 1, 2, 3, 4, 9, GREATEST};
    private static final int[] DIGITS = {LEAST, -9, -1, 0, 1, 2, 3, 4, 5, 8, 9, 10, GREATEST};
    private static final int[] SOUNDS = {LEAST, -9, -1, 0, 1, 2, 3, 5, 7, 8, 13, 14, 15, 18, 19, 20, 99, GREATEST};
    private static final int[] SETS = {LEAST, LEAST + 1, -1, 0, 1, 2, 3, 15, 16, 21, 30, 31, 32, 33, 63, 64, GREATEST};
    private static final int[] PLACES = {LEAST, LEAST + 1, -1, 0, 1, 7, 8, 9, 27, 28, 31, 32, 33, 59, 60, 61, GREATEST - 1,
        GREATEST};
    private static final int[] LENGTHS = {LEAST, -20, -1, 0, 1, 2, 3, 4, 8, 9, 13, 20, 21, 27, 28, 29, 59, 60, 61,
        1 << 30, GREATEST - 1, GREATEST};
    private static final int[] GOINGS = {LEAST, -1, 0, 1, 2, 3, 4, 9, 10, 11, 14, 15, GREATEST};
    private static final int[] CODES = {LEAST, -129, -128, -1, 0, 98, 127, 128, 255, 256, 32767, 32768, 65535, GREATEST};

    private static final String[] TEXTS = {"", "b29;h993", "b01;p000;k191;h452;p583;k400"};
    private static final int[] PAIRS = {0, 3, 0, 1, 0, 8, 0, 2, 4, 4, 1, 1, 5, 0, 0, 10};

    /** An object and a Model in the same state. */
    private static final class Both {
        final BellNames x = new BellNames();
        final Model m = new Model();

        Both(int state) {
            String text = TEXTS[state];
            row(0, 0, 0, codes(text));
            if (!text.isEmpty()) {
                x.alp(0, 0, 0, text.length());
                m.alp(0, 0, 0, text.length());
            }
            int readings = state == 1 ? 8 : 2;
            for (int r = 0; r < readings; r++) {
                x.reading(0, r % 4, m.none() ? 0 : m.sounds(0, r % 4));
                m.reading(0, r % 4, m.none() ? 0 : m.sounds(0, r % 4));
            }
            row(1, 2, 0, PAIRS);
            row(2, 1, 32, codes(TEXTS[2]));
        }

        void row(int k, int lane, int from, int[] cells) {
            write(x, k, lane, from, cells);
            m.sheet(k, lane, from + cells.length);
            for (int c = 0; c < cells.length; c++) m.put(k, from + c, cells[c]);
        }
    }

    /** Few enough for an object's 512 calls, with those of the state and of fault(). */
    private static final int CALLS_OF_AN_OBJECT = 100;

    private static void sweep(String name, OnBell bell, OnModel model, int[]... values) {
        about(name);
        int all = 1;
        for (int[] some : values) all *= some.length;
        int[] a = new int[values.length];
        for (int state = 0; state < TEXTS.length; state++) {
            Both both = null;
            for (int row = 0; row < all; row++) {
                if (row % CALLS_OF_AN_OBJECT == 0) both = new Both(state);
                int rest = row;
                for (int k = 0; k < a.length; k++) {
                    a[k] = values[k][rest % values[k].length];
                    rest /= values[k].length;
                }
                check(both, state, bell.answer(both.x, a), model.answer(both.m, a), a);
            }
        }
    }

    private static void check(Both both, int state, long got, long want, int[] a) {
        int fault = both.x.fault();
        boolean isWrong = got != want || fault != both.m.fault || both.x.trace() != both.m.trace;
        String told = isWrong ? "state " + state + " " + Arrays.toString(a) : "";
        due(told, got, want);
        due(told + " fault()", fault, both.m.fault);
        due(told + " trace()", both.x.trace(), both.m.trace);
    }

    public static void main(String[] args) {
        sweep("alp", (x, a) -> x.alp(a[0], a[1], a[2], a[3]), (m, a) -> m.alp(a[0], a[1], a[2], a[3]),
            SHEETS, LANES, PLACES, LENGTHS);
        sweep("ofBell", (x, a) -> x.ofBell(a[0], a[1]), (m, a) -> m.ofBell(a[0], a[1]), BELLS, DIGITS);
        sweep("cheer", (x, a) -> x.cheer(a[0], a[1]), (m, a) -> m.cheer(a[0], a[1]), BELLS, MOODS);
        sweep("recast", (x, a) -> x.recast(a[0], a[1]), (m, a) -> m.recast(a[0], a[1]), BELLS, DIGITS);
        sweep("go", (x, a) -> x.go(a[0], a[1]), (m, a) -> m.go(a[0], a[1]), BELLS, DIGITS);
        sweep("blow", (x, a) -> x.blow(a[0]), (m, a) -> m.blow(a[0]), DIGITS);
        sweep("sound", (x, a) -> x.sound(a[0], a[1]), (m, a) -> m.sound(a[0], a[1]), BELLS, MOODS);
        sweep("heard", (x, a) -> x.heard(a[0]), (m, a) -> m.heard(a[0]), DIGITS);
        sweep("taken", (x, a) -> x.taken(a[0], a[1]), (m, a) -> m.taken(a[0], a[1]), DIGITS, SOUNDS);
        sweep("meant", (x, a) -> x.meant(a[0], a[1]), (m, a) -> m.meant(a[0], a[1]), DIGITS, SOUNDS);
        sweep("family", (x, a) -> x.family(a[0]), (m, a) -> m.family(a[0]), BELLS);
        sweep("goings", (x, a) -> x.goings(a[0], a[1], a[2], a[3], a[4]),
            (m, a) -> m.goings(a[0], a[1], a[2], a[3], a[4]), SHEETS, LANES, PLACES, LENGTHS, GOINGS);
        sweep("post", (x, a) -> x.post(a[0]), (m, a) -> m.post(a[0]), SETS);
        sweep("call", (x, a) -> x.call(a[0], a[1]), (m, a) -> m.call(a[0], a[1]), SETS, DIGITS);
        sweep("cast", (x, a) -> x.cast(a[0]), (m, a) -> m.cast(a[0]), BELLS);
        sweep("choir", (x, a) -> x.choir(a[0]), (m, a) -> m.choir(a[0]), MOODS);
        sweep("reading", (x, a) -> x.reading(a[0], a[1], a[2]), (m, a) -> m.reading(a[0], a[1], a[2]),
            BELLS, MOODS, SOUNDS);
        sweep("back", (x, a) -> x.back(a[0]), (m, a) -> m.back(a[0]), DIGITS);
        sweep("notes", (x, a) -> x.notes(a[0]), (m, a) -> m.notes(a[0]), BELLS);
        sweep("kinds", (x, a) -> x.kinds(a[0]), (m, a) -> m.kinds(a[0]), BELLS);
        sweep("winds", (x, a) -> x.winds(), (m, a) -> m.winds(), new int[1]);
        sweep("odds", (x, a) -> x.odds(a[0], a[1], a[2]), (m, a) -> m.odds(a[0], a[1], a[2]), DIGITS, SOUNDS, DIGITS);
        sweep("sheet", (x, a) -> x.sheet(a[0], a[1], a[2]), (m, a) -> m.sheet(a[0], a[1], a[2]), SHEETS, LANES, LENGTHS);
        sweep("lose", (x, a) -> x.lose(a[0]), (m, a) -> m.lose(a[0]), SHEETS);
        sweep("put", (x, a) -> x.put(a[0], a[1], a[2]), (m, a) -> m.put(a[0], a[1], a[2]), SHEETS, PLACES, CODES);
        sweep("put and cell", (x, a) -> x.put(a[0], a[1], a[2]) + x.cell(a[0], a[1], a[3]),
            (m, a) -> m.put(a[0], a[1], a[2]) + m.cell(a[0], a[1], a[3]), SHEETS, PLACES, CODES, LANES);
        sweep("cell", (x, a) -> x.cell(a[0], a[1], a[2]), (m, a) -> m.cell(a[0], a[1], a[2]), SHEETS, PLACES, LANES);
        sweep("copy", (x, a) -> x.copy(a[0], a[1], a[2], a[3], a[4]), (m, a) -> m.copy(a[0], a[1], a[2], a[3], a[4]),
            SHEETS, PLACES, SHEETS, PLACES, LENGTHS);
        sweep("tell", (x, a) -> x.tell(a[0]), (m, a) -> m.tell(a[0]), BELLS);
        sweep("echo", (x, a) -> x.echo(a[0]), (m, a) -> m.echo(a[0]), BELLS);
        sweep("as", (x, a) -> x.as(a[0], a[1]), (m, a) -> m.as(a[0], a[1]), BELLS, MOODS);
        sweep("many", (x, a) -> x.many(a[0]), (m, a) -> m.many(a[0]), DIGITS);
        end();
    }
}
