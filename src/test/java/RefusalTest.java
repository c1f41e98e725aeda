import java.util.ArrayList;
import java.util.Arrays;
import java.util.List;
import java.util.TreeSet;
import java.util.function.Consumer;
import java.util.function.IntUnaryOperator;

/**
 * Each call's REFUSALS and FAULTS: where each begins and ends, which goes ahead of which when several are due at once,
 * what fault() tells behind the call, and that nothing else is changed.
 */
public final class RefusalTest extends Bench {
    private interface Call {
        long on(BellNames x, int[] a);
    }

    /** What a call is made upon, and the numbers that it is made with; breaks change either. */
    private static final class Scene {
        /** SHEET 0: bytes, the TEXT; 1: ints, three pairs; 2: bytes, 4 cells; 3: nothing. */
        static final String TEXT = "b12;k341;p522";

        final int[] a;
        final int[] pairs = {0, 5, 1, 6, 0, 9};
        boolean hasAlp = true;
        boolean isWrongText = false;
        int readings = 2;

        Scene(int[] a) {
            this.a = a.clone();
        }

        /** The latest FAULT is SIZE, so that it is seen whether the call behind it changes fault(). */
        BellNames make() {
            BellNames x = new BellNames();
            if (hasAlp) {
                alp(x, 0, TEXT);
                for (int r = 0; r < readings; r++) x.reading(r % 2, r % 4, x.sound(r % 2, r % 4));
                x.tell(0);
            }
            write(x, 0, 0, 0, codes(isWrongText ? TEXT.replace('p', 'q') : TEXT));
            write(x, 1, 2, 0, pairs);
            write(x, 2, 0, 0, 7, -7, 77, -77);
            x.sheet(3, 0, -1);
            return x;
        }
    }

    /** A way to go wrong, and the refusal or FAULT (or -100 less a place) that is due then. */
    private record Break(int due, Consumer<Scene> how) {
    }

    private static Break by(int due, int arg, int v) {
        return new Break(due, scene -> scene.a[arg] = v);
    }

    private static final Break NO_ALP = new Break(STATE, scene -> scene.hasAlp = false);
    private static final Break NO_BELLS = new Break(UNKNOWN, scene -> scene.hasAlp = false);

    private final String name;
    private final Call call;
    private final int[] base;
    private final boolean namesFaults;
    private final boolean answersLong;

    private RefusalTest(String name, Call call, int... base) {
        this.name = name;
        this.call = call;
        this.base = base;
        this.namesFaults = Arrays.asList("alp", "goings", "sheet", "put", "cell", "copy", "as").contains(name);
        this.answersLong = name.equals("odds") || name.equals("cell");
        about("promised of " + name);
    }

    private static boolean isFault(int due) {
        return due <= NULL && due >= SIZE;
    }

    private int faultBehind(int due) {
        if (!namesFaults) return 4;
        return isFault(due) ? -10 - due : 0;
    }

    /** The call answers so, fault() tells so, and all else is as in the same scene without the call. */
    private void refused(Scene scene, int due) {
        String told = name + Arrays.toString(scene.a);
        BellNames x = scene.make();
        due(told, call.on(x, scene.a), answersLong ? LOST : due);
        due(told + " fault()", x.fault(), faultBehind(due));
        due(told + " changes nothing", seen(x), seen(scene.make()));
    }

    private static boolean isRefusal(long answer) {
        return answer == LOST || answer != NONE && answer < 0 && answer >= SIZE;
    }

    private void accepted(Scene scene) {
        String told = name + Arrays.toString(scene.a);
        BellNames x = scene.make();
        due(told + " is refused", isRefusal(call.on(x, scene.a)) ? 1 : 0, 0);
        due(told + " fault()", x.fault(), namesFaults ? 0 : 4);
    }

    /** Numbers small and large, those beside powers of 2 (where an int or a shorter one would wrap) among them. */
    private static TreeSet<Integer> candidates() {
        TreeSet<Integer> all = new TreeSet<>();
        for (int v = -130; v <= 130; v++) all.add(v);
        for (int bit = 7; bit < 32; bit++) {
            for (int off = -1; off <= 2; off++) {
                all.add((1 << bit) + off);
                all.add(-(1 << bit) + off);
            }
        }
        for (int off = 0; off < 4; off++) {
            all.add(GREATEST - off);
            all.add(LEAST + off);
        }
        return all;
    }

    /** Each number in the place told is taken, where 0 is due, or refused as is due. */
    private RefusalTest bounds(int arg, IntUnaryOperator dueOf) {
        for (int v : candidates()) {
            Scene scene = new Scene(base);
            scene.a[arg] = v;
            int due = dueOf.applyAsInt(v);
            if (due == 0) accepted(scene);
            else refused(scene, due);
        }
        return this;
    }

    private RefusalTest bounds(int arg, int due, int greatest) {
        return bounds(arg, v -> isUpTo(greatest, v) ? 0 : due);
    }

    private static boolean isUpTo(int greatest, int v) {
        return v >= 0 && v <= greatest;
    }

    /** Whichever of the breaks come together: the first of them, in the order of the call's line, is told. */
    private void order(Break... breaks) {
        accepted(new Scene(base));
        for (int some = 1; some < 1 << breaks.length; some++) {
            Scene scene = new Scene(base);
            List<Integer> due = new ArrayList<>();
            for (int k = breaks.length - 1; k >= 0; k--) {
                if ((some >> k & 1) == 0) continue;
                breaks[k].how().accept(scene);
                due.add(0, breaks[k].due());
            }
            refused(scene, due.get(0));
        }
    }

    public static void main(String[] args) {
        theAlp();
        theBells();
        whoIsHeard();
        theGoings();
        callsAndChoirs();
        howTheySounded();
        theSheets();
        theCopy();
        theParts();
        end();
    }

    private static void theAlp() {
        RefusalTest alp = new RefusalTest("alp", (x, a) -> x.alp(a[0], a[1], a[2], a[3]), 0, 0, 0, 13);
        // A SHEET that has nothing is no CAST: NULL and CAST never come together.
        alp.order(by(UNKNOWN, 0, 4), by(OUTSIDE, 1, 3), by(NULL, 0, 3), by(CAST, 1, 1), by(SIZE, 3, -1),
            by(INDEX, 2, 14), new Break(-109, scene -> scene.isWrongText = true));
        alp.order(by(UNKNOWN, 0, -1), by(OUTSIDE, 1, -1), by(CAST, 0, 1), by(SIZE, 3, LEAST), by(INDEX, 2, -1));
        alp.order(by(INDEX, 3, 14), new Break(-109, scene -> scene.isWrongText = true));
        alp.bounds(0, v -> v == 0 ? 0 : v == 1 ? CAST : v == 2 ? INDEX : v == 3 ? NULL : UNKNOWN);
        alp.bounds(1, v -> v == 0 ? 0 : isUpTo(2, v) ? CAST : OUTSIDE);
        alp.bounds(2, v -> v == 0 ? 0 : INDEX);
        alp.bounds(3, v -> v < 0 ? SIZE : v > 13 ? INDEX : v == 8 || v == 13 ? 0 : -100 - v);
        new RefusalTest("alp", (x, a) -> x.alp(0, 0, a[0], 0), 0).bounds(0, v -> isUpTo(13, v) ? -100 : INDEX);
    }

    private static void theBells() {
        new RefusalTest("ofBell", (x, a) -> x.ofBell(a[0], a[1]), 0, 0)
            .bounds(0, UNKNOWN, 1).bounds(1, OUTSIDE, 3).order(NO_BELLS, by(UNKNOWN, 0, 2), by(OUTSIDE, 1, 4));
        new RefusalTest("cheer", (x, a) -> x.cheer(a[0], a[1]), 0, 0)
            .bounds(0, UNKNOWN, 1).bounds(1, OUTSIDE, 3).order(NO_BELLS, by(UNKNOWN, 0, 2), by(OUTSIDE, 1, 4));
        new RefusalTest("recast", (x, a) -> x.recast(a[0], a[1]), 0, 0)
            .bounds(0, UNKNOWN, 1).bounds(1, OUTSIDE, 9).order(NO_BELLS, by(UNKNOWN, 0, 2), by(OUTSIDE, 1, 10));
        new RefusalTest("go", (x, a) -> x.go(a[0], a[1]), 0, 0)
            .bounds(0, UNKNOWN, 1).bounds(1, OUTSIDE, 9).order(NO_BELLS, by(UNKNOWN, 0, 2), by(OUTSIDE, 1, 10));
        new RefusalTest("blow", (x, a) -> x.blow(a[0]), 0)
            .bounds(0, OUTSIDE, 2).order(by(OUTSIDE, 0, 3), NO_ALP);
        new RefusalTest("sound", (x, a) -> x.sound(a[0], a[1]), 0, 0)
            .bounds(0, UNKNOWN, 1).bounds(1, v -> v == NONE || isUpTo(3, v) ? 0 : OUTSIDE)
            .order(NO_BELLS, by(UNKNOWN, 0, 2), by(OUTSIDE, 1, 4));
    }

    private static void whoIsHeard() {
        new RefusalTest("heard", (x, a) -> x.heard(a[0]), 0)
            .bounds(0, OUTSIDE, 9).order(by(OUTSIDE, 0, 10), NO_ALP);
        new RefusalTest("taken", (x, a) -> x.taken(a[0], a[1]), 0, 0)
            .bounds(0, OUTSIDE, 9).bounds(1, OUTSIDE, 19).order(by(OUTSIDE, 0, 10), by(OUTSIDE, 1, 20), NO_ALP);
        new RefusalTest("meant", (x, a) -> x.meant(a[0], a[1]), 0, 0)
            .bounds(0, OUTSIDE, 9).bounds(1, OUTSIDE, 19).order(by(OUTSIDE, 0, 10), by(OUTSIDE, 1, 20), NO_ALP);
        new RefusalTest("family", (x, a) -> x.family(a[0]), 0)
            .bounds(0, UNKNOWN, 1).order(NO_BELLS, by(UNKNOWN, 0, 2));
    }

    private static Break pair(int due, int cell, int v) {
        return new Break(due, scene -> scene.pairs[cell] = v);
    }

    private static void theGoings() {
        RefusalTest goings = new RefusalTest("goings", (x, a) -> x.goings(a[0], a[1], a[2], a[3], a[4]), 1, 2, 0, 3, 0);
        goings.order(by(UNKNOWN, 0, 4), by(OUTSIDE, 1, 3), by(OUTSIDE, 3, 21), by(OUTSIDE, 4, 4), by(NULL, 0, 3),
            by(CAST, 1, 0), by(INDEX, 2, 1), NO_ALP, pair(UNKNOWN, 2, 2), pair(OUTSIDE, 3, 10));
        // A refusal of a pair goes ahead of the FIRST WRONG, wherever it stands.
        goings.order(NO_ALP, pair(UNKNOWN, 0, -1), pair(OUTSIDE, 1, -1), pair(UNKNOWN, 2, 5), pair(OUTSIDE, 3, GREATEST),
            pair(UNKNOWN, 4, LEAST), pair(OUTSIDE, 5, LEAST), pair(-100, 1, 4), pair(-101, 3, 2), pair(-102, 5, 5));
        goings.bounds(0, v -> v == 1 ? 0 : v == 3 ? NULL : v == 0 || v == 2 ? CAST : UNKNOWN);
        goings.bounds(1, v -> v == 2 ? 0 : isUpTo(2, v) ? CAST : OUTSIDE);
        goings.bounds(2, v -> v == 0 ? 0 : INDEX);
        goings.bounds(3, v -> isUpTo(3, v) ? 0 : isUpTo(20, v) ? INDEX : OUTSIDE);
        goings.bounds(4, v -> isUpTo(3, v) || v >= 10 && v <= 14 ? 0 : OUTSIDE);
        new RefusalTest("goings", (x, a) -> x.goings(1, 2, a[0], 0, 1), 0).bounds(0, INDEX, 6);
        for (int v : candidates()) {
            for (int cell = 0; cell < 6; cell++) {
                Scene scene = new Scene(goings.base);
                scene.pairs[cell] = v;
                boolean isBell = cell % 2 == 0;
                if (isUpTo(isBell ? 1 : 9, v)) goings.accepted(scene);
                else goings.refused(scene, isBell ? UNKNOWN : OUTSIDE);
            }
        }
    }

    private static void callsAndChoirs() {
        new RefusalTest("post", (x, a) -> x.post(a[0]), 0)
            .bounds(0, OUTSIDE, 3).order(NO_ALP, by(OUTSIDE, 0, 4));
        new RefusalTest("call", (x, a) -> x.call(a[0], a[1]), 0, 0)
            .bounds(0, OUTSIDE, 3).bounds(1, OUTSIDE, 1).order(NO_ALP, by(OUTSIDE, 0, 4), by(OUTSIDE, 1, 2));
        new RefusalTest("cast", (x, a) -> x.cast(a[0]), 0)
            .bounds(0, UNKNOWN, 1).order(NO_BELLS, by(UNKNOWN, 0, 2));
        new RefusalTest("choir", (x, a) -> x.choir(a[0]), 0)
            .bounds(0, v -> v == -1 || isUpTo(4, v) ? 0 : OUTSIDE).order(NO_ALP, by(OUTSIDE, 0, 5));
    }

    private static void howTheySounded() {
        Break full = new Break(FULL, scene -> scene.readings = 8);
        new RefusalTest("reading", (x, a) -> x.reading(a[0], a[1], a[2]), 0, 0, 0)
            .bounds(0, UNKNOWN, 1).bounds(1, OUTSIDE, 3).bounds(2, OUTSIDE, 19)
            .order(NO_BELLS, by(UNKNOWN, 0, 2), by(OUTSIDE, 1, 4), by(OUTSIDE, 2, 20), full);
        new RefusalTest("back", (x, a) -> x.back(a[0]), 0)
            .bounds(0, OUTSIDE, 2).order(by(OUTSIDE, 0, 3));
        new RefusalTest("notes", (x, a) -> x.notes(a[0]), 0)
            .bounds(0, UNKNOWN, 1).order(NO_BELLS, by(UNKNOWN, 0, 2));
        new RefusalTest("kinds", (x, a) -> x.kinds(a[0]), 0)
            .bounds(0, UNKNOWN, 1).order(NO_BELLS, by(UNKNOWN, 0, 2));
        new RefusalTest("winds", (x, a) -> x.winds())
            .order(NO_ALP);
        new RefusalTest("odds", (x, a) -> x.odds(a[0], a[1], a[2]), 0, 0, 0)
            .bounds(0, OUTSIDE, 9).bounds(1, OUTSIDE, 19).bounds(2, OUTSIDE, 1)
            .order(by(OUTSIDE, 0, 10), by(OUTSIDE, 1, 20), by(OUTSIDE, 2, 2), NO_ALP);
    }

    private static void theSheets() {
        new RefusalTest("sheet", (x, a) -> x.sheet(a[0], a[1], a[2]), 0, 0, 0)
            .bounds(0, UNKNOWN, 3).bounds(1, OUTSIDE, 2)
            .bounds(2, v -> v < 0 ? SIZE : v > 60 ? OUTSIDE : 0)
            .order(by(UNKNOWN, 0, 4), by(OUTSIDE, 1, 3), by(OUTSIDE, 2, 61), by(SIZE, 2, -1));
        new RefusalTest("lose", (x, a) -> x.lose(a[0]), 0)
            .bounds(0, UNKNOWN, 3).order(by(UNKNOWN, 0, 4));
        new RefusalTest("put", (x, a) -> x.put(a[0], a[1], a[2]), 0, 0, 0)
            .bounds(0, v -> v == 3 ? NULL : isUpTo(3, v) ? 0 : UNKNOWN).bounds(1, INDEX, 12).bounds(2, v -> 0)
            .order(by(UNKNOWN, 0, 4), by(NULL, 0, 3), by(INDEX, 1, 13));
        new RefusalTest("cell", (x, a) -> x.cell(a[0], a[1], a[2]), 0, 0, 0)
            .bounds(0, v -> v == 3 ? NULL : v == 1 ? CAST : isUpTo(3, v) ? 0 : UNKNOWN).bounds(1, INDEX, 12)
            .bounds(2, v -> v == 0 ? 0 : isUpTo(2, v) ? CAST : OUTSIDE)
            .order(by(UNKNOWN, 0, 4), by(OUTSIDE, 2, 3), by(NULL, 0, 3), by(CAST, 2, 1), by(INDEX, 1, 13));
    }

    private static void theCopy() {
        RefusalTest copy = new RefusalTest("copy", (x, a) -> x.copy(a[0], a[1], a[2], a[3], a[4]), 0, 5, 2, 1, 3);
        copy.order(by(UNKNOWN, 0, 4), by(UNKNOWN, 2, 4), by(NULL, 0, 3), by(NULL, 2, 3), by(CAST, 2, 1),
            by(INDEX, 1, 14), by(INDEX, 3, 5), by(INDEX, 4, -1));
        copy.order(by(UNKNOWN, 0, -1), by(UNKNOWN, 2, -1), by(CAST, 0, 1), by(INDEX, 1, -1), by(INDEX, 3, -1),
            by(INDEX, 4, GREATEST));
        copy.bounds(0, v -> v == 0 ? 0 : v == 1 ? CAST : v == 2 ? INDEX : v == 3 ? NULL : UNKNOWN);
        copy.bounds(2, v -> v == 0 || v == 2 ? 0 : v == 1 ? CAST : v == 3 ? NULL : UNKNOWN);
        copy.bounds(1, INDEX, 10).bounds(3, INDEX, 1).bounds(4, INDEX, 3);
        // Where no cell is taken, a place just behind the last cell is one, too.
        new RefusalTest("copy", (x, a) -> x.copy(0, a[0], 2, a[1], 0), 0, 0).bounds(0, INDEX, 13).bounds(1, INDEX, 4);
    }

    private static void theParts() {
        new RefusalTest("tell", (x, a) -> x.tell(a[0]), 0)
            .bounds(0, UNKNOWN, 1).order(NO_BELLS, by(UNKNOWN, 0, 2));
        new RefusalTest("echo", (x, a) -> x.echo(a[0]), 0)
            .bounds(0, UNKNOWN, 1).order(NO_BELLS, by(UNKNOWN, 0, 2));
        new RefusalTest("as", (x, a) -> x.as(a[0], a[1]), 0, 0)
            .bounds(0, UNKNOWN, 1).bounds(1, v -> v == 0 || v == 1 ? 0 : v == 2 ? CAST : OUTSIDE)
            .order(NO_BELLS, by(UNKNOWN, 0, 2), by(OUTSIDE, 1, 3), by(CAST, 1, 2));
        new RefusalTest("many", (x, a) -> x.many(a[0]), 0)
            .bounds(0, OUTSIDE, 3).order(by(OUTSIDE, 0, 4));
    }
}
