import java.util.ArrayList;
import java.util.List;
import java.util.Random;

/** Long runs of made-up calls, each answered by BellNames and by the Model. */
public final class ModelTest {
    private final Random random;
    private final BellNames x = new BellNames();
    private final Model model = new Model();
    private final List<String> calls = new ArrayList<>();
    private boolean isWrong = false;

    private ModelTest(long seed) {
        random = new Random(seed);
    }

    private void same(String call, long got, long want) {
        calls.add(call + " = " + got);
        if (got != want && !isWrong) {
            isWrong = true;
            for (String c : calls) System.out.println("  " + c);
            System.out.println("  .. but due is " + want);
        }
    }

    private static final int[] WILD = {-1, -2, -9, 5, 10, 20, 61, 99, Integer.MAX_VALUE, Integer.MIN_VALUE};

    /** Mostly 0 .. most, now and then a number that is none of these. */
    private int upTo(int most) {
        return random.nextInt(25) == 0 ? WILD[random.nextInt(WILD.length)] : random.nextInt(most + 1);
    }

    private void write(int k, int lane, int[] cells, int ahead) {
        same("sheet(" + k + ", " + lane + ", " + (cells.length + ahead) + ")",
            x.sheet(k, lane, cells.length + ahead), model.sheet(k, lane, cells.length + ahead));
        for (int c = 0; c < cells.length; c++) {
            int i = c + ahead;
            int v = cells[c];
            same("put(" + k + ", " + i + ", " + v + ")", x.put(k, i, v), model.put(k, i, v));
        }
    }

    private int letter(int... of) {
        return of[random.nextInt(of.length)];
    }

    private void newAlp() {
        int bells = 1 + random.nextInt(5);
        if (random.nextInt(12) == 0) bells = 6;
        int notes = random.nextInt(2) == 0 ? 10 : 3;
        int[] text = new int[3 + 5 * bells];
        text[0] = 'b';
        text[1] = '0' + random.nextInt(3);
        text[2] = '0' + random.nextInt(random.nextInt(3) == 0 ? 10 : 3);
        for (int b = 0; b < bells; b++) {
            text[3 + 5 * b] = ';';
            text[4 + 5 * b] = letter('p', 'k', 'h');
            text[5 + 5 * b] = '0' + random.nextInt(notes);
            text[6 + 5 * b] = '0' + random.nextInt(10);
            text[7 + 5 * b] = '0' + random.nextInt(4);
        }
        if (random.nextInt(3) == 0) text[random.nextInt(text.length)] = letter('b', 'p', ';', '0', '3', '9', ':', '/', 0, -1, 354);
        int k = random.nextInt(4);
        int lane = random.nextInt(3);
        int ahead = random.nextInt(3);
        write(k, lane, text, ahead);
        int n = random.nextInt(4) == 0 ? random.nextInt(text.length + 2) : text.length;
        alp(k, random.nextInt(12) == 0 ? upTo(2) : lane, ahead, n);
    }

    private void alp(int k, int lane, int i, int n) {
        same("alp(" + k + ", " + lane + ", " + i + ", " + n + ")", x.alp(k, lane, i, n), model.alp(k, lane, i, n));
    }

    private void someGoings() {
        int n = random.nextInt(5) == 0 ? random.nextInt(21) : random.nextInt(6);
        int[] pairs = new int[2 * n];
        for (int p = 0; p < n; p++) {
            pairs[2 * p] = random.nextInt(12) == 0 ? upTo(5) : random.nextInt(Math.max(1, model.bells.size()));
            pairs[2 * p + 1] = random.nextInt(12) == 0 ? upTo(10) : random.nextInt(10);
        }
        int k = random.nextInt(4);
        int lane = random.nextInt(3);
        write(k, lane, pairs, random.nextInt(2));
        for (int what : new int[] {0, 1, 2, 3, 10, 11, 12, 13, 14, upTo(15)}) {
            goings(k, lane, model.sheets[k] == null ? 0 : Model.lengthOf(model.sheets[k]) - 2 * n, n, what);
        }
    }

    private void goings(int k, int lane, int i, int n, int what) {
        same("goings(" + k + ", " + lane + ", " + i + ", " + n + ", " + what + ")",
            x.goings(k, lane, i, n, what), model.goings(k, lane, i, n, what));
    }

    private void aReading() {
        int b = upTo(4);
        int mood = upTo(3);
        int v = upTo(19);
        // Mostly a true one, for else all sets would be empty soon.
        if (!model.none(b) && !Model.off(mood, 3) && random.nextInt(5) != 0) v = model.sounds(b, mood);
        same("reading(" + b + ", " + mood + ", " + v + ")", x.reading(b, mood, v), model.reading(b, mood, v));
    }

    private void aSheetCall() {
        int k = upTo(3);
        int i = upTo(8);
        int v = random.nextInt(3) == 0 ? random.nextInt() : upTo(200);
        int lane = upTo(2);
        int n = upTo(8);
        switch (random.nextInt(7)) {
            case 0 -> same("sheet(" + k + ", " + lane + ", " + n + ")", x.sheet(k, lane, n), model.sheet(k, lane, n));
            case 1 -> same("lose(" + k + ")", x.lose(k), model.lose(k));
            case 2 -> same("put(" + k + ", " + i + ", " + v + ")", x.put(k, i, v), model.put(k, i, v));
            case 3 -> same("cell(" + k + ", " + i + ", " + lane + ")", x.cell(k, i, lane), model.cell(k, i, lane));
            case 4 -> alp(k, lane, i, n);
            case 5 -> goings(k, lane, i, n, upTo(14));
            default -> {
                int other = upTo(3);
                int j = upTo(8);
                same("copy(" + k + ", " + i + ", " + other + ", " + j + ", " + n + ")",
                    x.copy(k, i, other, j, n), model.copy(k, i, other, j, n));
            }
        }
        same("fault()", x.fault(), model.fault);
    }

    private void aChange() {
        int b = upTo(4);
        int v = upTo(9);
        int mood = upTo(3);
        int wind = upTo(2);
        switch (random.nextInt(7)) {
            case 0 -> same("cheer(" + b + ", " + mood + ")", x.cheer(b, mood), model.cheer(b, mood));
            case 1 -> same("recast(" + b + ", " + v + ")", x.recast(b, v), model.recast(b, v));
            case 2 -> same("go(" + b + ", " + v + ")", x.go(b, v), model.go(b, v));
            case 3 -> same("blow(" + wind + ")", x.blow(wind), model.blow(wind));
            case 4 -> same("tell(" + b + ")", x.tell(b), model.tell(b));
            case 5 -> same("echo(" + b + ")", x.echo(b), model.echo(b));
            default -> same("back(" + mood + ")", x.back(mood), model.back(mood));
        }
        same("trace()", x.trace(), model.trace);
    }

    private void aQuestion() {
        int b = upTo(4);
        int spot = upTo(9);
        int v = upTo(19);
        int set = upTo(31);
        int what = upTo(3);
        switch (random.nextInt(16)) {
            case 0 -> same("ofBell(" + b + ", " + what + ")", x.ofBell(b, what), model.ofBell(b, what));
            case 1 -> same("sound(" + b + ", " + what + ")", x.sound(b, what), model.sound(b, what));
            case 2 -> same("heard(" + spot + ")", x.heard(spot), model.heard(spot));
            case 3 -> same("taken(" + spot + ", " + v + ")", x.taken(spot, v), model.taken(spot, v));
            case 4 -> same("meant(" + spot + ", " + v + ")", x.meant(spot, v), model.meant(spot, v));
            case 5 -> same("family(" + b + ")", x.family(b), model.family(b));
            case 6 -> same("post(" + set + ")", x.post(set), model.post(set));
            case 7 -> {
                same("call(" + set + ", 0)", x.call(set, 0), model.call(set, 0));
                same("call(" + set + ", " + what + ")", x.call(set, what), model.call(set, what));
            }
            case 8 -> same("cast(" + b + ")", x.cast(b), model.cast(b));
            case 9 -> {
                for (int k = -2; k <= 5; k++) same("choir(" + k + ")", x.choir(k), model.choir(k));
            }
            case 10 -> same("notes(" + b + ")", x.notes(b), model.notes(b));
            case 11 -> same("kinds(" + b + ")", x.kinds(b), model.kinds(b));
            case 12 -> same("winds()", x.winds(), model.winds());
            case 13 -> {
                int low = upTo(14);
                same("odds(" + spot + ", " + low + ", 0)", x.odds(spot, low, 0), model.odds(spot, low, 0));
                same("odds(" + spot + ", " + low + ", 1)", x.odds(spot, low, 1), model.odds(spot, low, 1));
                same("odds(" + spot + ", " + v + ", " + what + ")", x.odds(spot, v, what), model.odds(spot, v, what));
            }
            case 14 -> {
                same("as(" + b + ", " + what + ")", x.as(b, what), model.as(b, what));
                same("fault()", x.fault(), model.fault);
            }
            default -> same("many(" + what + ")", x.many(what), model.many(what));
        }
        same("fault()", x.fault(), model.fault);
    }

    private void aStep() {
        int way = random.nextInt(40);
        if (way == 0) newAlp();
        else if (way == 1) someGoings();
        else if (way < 6) aReading();
        else if (way < 12) aSheetCall();
        else if (way < 20) aChange();
        else aQuestion();
    }

    public static void main(String[] args) {
        int wrong = 0;
        int runs = args.length > 0 ? Integer.parseInt(args[0]) : 3000;
        for (int seed = 0; seed < runs && wrong < 3; seed++) {
            ModelTest run = new ModelTest(seed);
            if (seed % 10 != 0) run.newAlp();
            // The last step may be a long one: the document promises 512 calls.
            while (run.calls.size() < 440 && !run.isWrong) run.aStep();
            if (run.isWrong) wrong++;
        }
        System.out.println(wrong == 0 ? "both programs answer alike" : "at least " + wrong + " runs are not alike");
        if (wrong != 0) System.exit(1);
    }
}
