/** What the tests share: due answers, ways to an ALP, and all that can be seen of an object. */
abstract class Bench {
    static final int UNKNOWN = -1, OUTSIDE = -2, STATE = -3, FULL = -4, NONE = -9;
    static final int NULL = -11, CAST = -12, INDEX = -13, SIZE = -14;
    static final long LOST = Long.MIN_VALUE;
    static final int LEAST = Integer.MIN_VALUE, GREATEST = Integer.MAX_VALUE;

    private static String sentence = "";
    private static int check = 0;
    private static int checks = 0;
    private static int wrong = 0;

    /** The sentence (or promise) that the checks behind it are about. */
    static void about(String told) {
        sentence = told;
        check = 0;
    }

    static void due(long got, long want) {
        due("", got, want);
    }

    static void due(String call, long got, long want) {
        due(call, String.valueOf(got), String.valueOf(want));
    }

    static void due(String call, String got, String want) {
        check++;
        checks++;
        if (!got.equals(want)) {
            wrong++;
            if (wrong <= 50) {
                System.out.println(sentence + ", check " + check + " " + call + ": answered " + got + ", due is " + want);
            }
        }
    }

    static void end() {
        System.out.println(wrong == 0 ? "all " + checks + " answers are as due" : wrong + " answers are not as due");
        if (wrong != 0) System.exit(1);
    }

    /** A new row on SHEET k that has the cells from the place told on. */
    static void write(BellNames x, int k, int lane, int from, int... cells) {
        x.sheet(k, lane, from + cells.length);
        for (int c = 0; c < cells.length; c++) x.put(k, from + c, cells[c]);
    }

    static int[] codes(String text) {
        return text.chars().toArray();
    }

    static int alp(BellNames x, int lane, String text) {
        write(x, 0, lane, 0, codes(text));
        return x.alp(0, lane, 0, text.length());
    }

    static BellNames on(String text) {
        BellNames x = new BellNames();
        alp(x, 0, text);
        return x;
    }

    /** All that can be seen of an object (not by how it is held inside); the object can't be used behind it. */
    static String seen(BellNames x) {
        StringBuilder s = new StringBuilder();
        s.append("trace ").append(x.trace()).append(", many");
        for (int what = 0; what < 4; what++) s.append(' ').append(x.many(what));
        for (int k = 0; k < 4; k++) s.append(", sheet ").append(k).append(rowOf(x, k));
        for (int b = 0; b < x.many(0); b++) {
            s.append(", bell");
            for (int what = 0; what < 4; what++) s.append(' ').append(x.ofBell(b, what));
        }
        // READINGS are seen by what follows from them, one after another taken back.
        while (x.many(3) > 0) {
            s.append(", follows ").append(x.winds());
            for (int b = 0; b < x.many(0); b++) s.append(' ').append(x.notes(b)).append(' ').append(x.kinds(b));
            x.back(1);
        }
        return s.toString();
    }

    private static String rowOf(BellNames x, int k) {
        for (int lane = 0; lane < 3; lane++) {
            StringBuilder s = new StringBuilder(" of lane ").append(lane).append(':');
            int i = 0;
            for (long cell = x.cell(k, 0, lane); x.fault() == 0; cell = x.cell(k, ++i, lane)) s.append(' ').append(cell);
            if (x.fault() == 3) return s.toString();
        }
        return " nothing";
    }
}
