import java.math.BigInteger;

/**
 * Each sentence of the document that names a bound, NONE, what is empty or full, or a wrap: by what is just inside and
 * just outside of it. (What is refused, and in which order, is for RefusalTest.)
 */
public final class EdgeTest extends Bench {
    private static final String FIVE = "b12;p310;k552;h873;p191;k440";
    private static final int[] GOING_QUESTIONS = {0, 1, 2, 3, 10, 11, 12, 13, 14};

    public static void main(String[] args) {
        terms();
        aNewObject();
        textsThatEndTooSoon();
        textsByCode();
        textsOfOtherLanes();
        textsWithin();
        textsTaken();
        whatBellsAre();
        changes();
        sounds();
        heard();
        taken();
        meant();
        family();
        goingsNoneAndMost();
        goingsFirstWrong();
        goingsAnswers();
        post();
        call();
        cast();
        choir();
        readingsFull();
        readingsTakenBack();
        notes();
        kinds();
        winds();
        odds();
        sheetsNew();
        sheetsLost();
        cellsCut();
        cellsAtTheEnds();
        copies();
        tellings();
        echoes();
        as();
        traceWraps();
        fault();
        many();
        theLastCall();
        end();
    }

    private static void terms() {
        about("NONE is -9, refusals -1 .. -4, LOST the least long");
        due(BellNames.UNKNOWN, -1);
        due(BellNames.OUTSIDE, -2);
        due(BellNames.STATE, -3);
        due(BellNames.FULL, -4);
        due(BellNames.NONE, -9);
        due(BellNames.LOST, Long.MIN_VALUE);
        about("FAULTS answer -10 less 1 NULL, 2 CAST, 3 INDEX, 4 SIZE; fault() tells it");
        BellNames x = new BellNames();
        due(x.put(0, 0, 0), -11);
        due(x.fault(), 1);
        x.sheet(0, 0, 0);
        due(x.alp(0, 1, 0, 0), -12);
        due(x.fault(), 2);
        due(x.put(0, 0, 0), -13);
        due(x.fault(), 3);
        due(x.sheet(0, 0, -1), -14);
        due(x.fault(), 4);
    }

    private static void aNewObject() {
        about("1: no ALP (no BELLS), SHEETS have nothing");
        BellNames x = new BellNames();
        for (int what = 0; what < 4; what++) due(x.many(what), 0);
        due(x.trace(), 0);
        due(x.fault(), 0);
        due(x.ofBell(0, 0), UNKNOWN);
        due(x.winds(), STATE);
        for (int k = 0; k < 4; k++) due(x.lose(k), 0);
    }

    private static void textsThatEndTooSoon() {
        about("1 to 5 BELLS; how many codes there are, if it just ends too soon");
        for (int n = 0; n <= 28; n++) {
            int due = n > 3 && n % 5 == 3 ? (n - 3) / 5 : -100 - n;
            due("of " + n + " codes", alp(new BellNames(), 0, FIVE.substring(0, n)), due);
        }
        about("the place of the first code with which no TEXT goes on (the ; of a sixth BELL)");
        due(alp(new BellNames(), 0, FIVE + ";"), -128);
        due(alp(new BellNames(), 0, FIVE + ";p000"), -128);
        due(alp(new BellNames(), 0, FIVE + ";p000;p000;p000;p000;p000;p00"), -128);
        due(alp(new BellNames(), 0, FIVE + "0"), -128);
        about("the first of several such places");
        due(alp(new BellNames(), 0, "x9x"), -100);
        due(alp(new BellNames(), 0, "b9x"), -101);
        due(alp(new BellNames(), 0, "b1x;"), -102);
        due(alp(new BellNames(), 0, "b12;p310;k55x;"), -112);
    }

    /** Which codes a TEXT may have at a place. */
    private static String codesAt(int place) {
        String[] head = {"b", "012", "0123456789"};
        String[] bell = {";", "pkh", "0123456789", "0123456789", "0123"};
        return place < 3 ? head[place] : bell[(place - 3) % 5];
    }

    private static void textsByCode() {
        int[] far = {LEAST, LEAST + 98, -98, 98 + 256, 59 + 256, 48 + 65536, 112 + 65536, GREATEST - 1, GREATEST};
        for (int place = 0; place < 28; place++) {
            about("codes at place " + place + " of a TEXT: " + codesAt(place));
            for (int code = -1; code <= 128 + far.length; code++) {
                int v = code <= 128 ? code : far[code - 129];
                BellNames x = new BellNames();
                write(x, 0, 2, 0, codes(FIVE));
                x.put(0, place, v);
                boolean fits = v > 0 && v < 128 && codesAt(place).indexOf(v) >= 0;
                due("code " + v, x.alp(0, 2, 0, 28), fits ? 5 : -100 - place);
                due("code " + v, x.fault(), 0);
            }
        }
    }

    private static void textsOfOtherLanes() {
        about("a TEXT in any LANE; its codes are cut to the LANE as they come to the cells");
        for (int lane = 0; lane < 3; lane++) {
            BellNames x = new BellNames();
            due(alp(x, lane, FIVE), 5);
            x.put(0, 0, 98 + 256);
            due(x.alp(0, lane, 0, 28), lane == 0 ? 5 : -100);
            x.put(0, 0, 98 - 65536);
            due(x.alp(0, lane, 0, 28), lane < 2 ? 5 : -100);
        }
    }

    private static void textsWithin() {
        about("2: n cells from i on; INDEX: not all cells are there");
        BellNames x = new BellNames();
        write(x, 0, 1, 32, codes(FIVE));
        due(x.alp(0, 1, 32, 28), 5);
        due(x.alp(0, 1, 32, 29), INDEX);
        due(x.alp(0, 1, 33, 28), INDEX);
        due(x.alp(0, 1, 33, 27), -100);
        due(x.alp(0, 1, 32, 8), 1);
        due(x.alp(0, 1, 0, 60), -100);
        due(x.alp(0, 1, 0, 61), INDEX);
        due(x.alp(0, 1, -1, 60), INDEX);
        about("2: INDEX where i is not 0 .. how many there are, if no cell is taken, too");
        due(x.alp(0, 1, 60, 0), -100);
        due(x.alp(0, 1, 61, 0), INDEX);
        due(x.alp(0, 1, -1, 0), INDEX);
        x.sheet(0, 1, 0);
        due(x.alp(0, 1, 0, 0), -100);
        due(x.alp(0, 1, 1, 0), INDEX);
        about("2: numbers whose sum would wrap");
        due(x.alp(0, 1, GREATEST, GREATEST), INDEX);
        due(x.alp(0, 1, GREATEST, 1), INDEX);
        due(x.alp(0, 1, 1, GREATEST), INDEX);
        due(x.alp(0, 1, LEAST, GREATEST), INDEX);
        due(x.alp(0, 1, LEAST, LEAST), SIZE);
        due(x.many(0), 1);
    }

    private static void textsTaken() {
        about("a TEXT that is taken makes all anew: no READINGS");
        BellNames x = on(FIVE);
        for (int r = 0; r < 8; r++) x.reading(0, 0, 0);
        due(alp(x, 0, "b29;p993"), 1);
        due(x.many(0), 1);
        due(x.many(1), 2);
        due(x.many(2), 9);
        due(x.many(3), 0);
        due(x.back(1), OUTSIDE);
        due(x.notes(0), 1023);
        due(x.reading(0, 3, 14), 0);
        due(x.ofBell(1, 0), UNKNOWN);
        due(alp(x, 0, "b29;p993"), 1);
        due(x.many(3), 0);
        about("a TEXT with a FIRST FAULT changes nothing");
        x.reading(0, 3, 14);
        due(alp(x, 0, "b00;k000;h00"), -112);
        due(x.many(0), 1);
        due(x.many(1), 2);
        due(x.many(2), 9);
        due(x.many(3), 1);
        due(x.ofBell(0, 0), 0);
        due(x.ofBell(0, 1), 9);
        due(x.notes(0), 1 << 9);
        about("cells of the TEXT that change behind it change no BELL");
        x.lose(0);
        due(x.ofBell(0, 1), 9);
    }

    private static void whatBellsAre() {
        about("3: kind, NOTE, SPOT, MOOD, the least and the greatest of each");
        BellNames x = on("b00;p000;k111;h993");
        int[][] due = {{0, 0, 0, 0}, {1, 1, 1, 1}, {2, 9, 9, 3}};
        for (int b = 0; b < 3; b++) {
            for (int what = 0; what < 4; what++) due(x.ofBell(b, what), due[b][what]);
        }
    }

    private static void changes() {
        BellNames x = on("b10;p451;k682");
        about("4: MOOD becomes v (0 .. 3): what it was");
        due(x.cheer(0, 0), 1);
        due(x.cheer(0, 3), 0);
        due(x.cheer(0, 4), OUTSIDE);
        due(x.cheer(0, -1), OUTSIDE);
        due(x.cheer(0, 3), 3);
        due(x.ofBell(1, 3), 2);
        about("5: NOTE becomes v (0 .. 9): what it was");
        due(x.recast(0, 0), 4);
        due(x.recast(0, 9), 0);
        due(x.recast(0, 10), OUTSIDE);
        due(x.recast(0, -1), OUTSIDE);
        due(x.recast(0, 9), 9);
        due(x.ofBell(1, 1), 6);
        about("6: a BELL goes to a SPOT (0 .. 9): where it was");
        due(x.go(0, 0), 5);
        due(x.go(0, 9), 0);
        due(x.go(0, 10), OUTSIDE);
        due(x.go(0, -1), OUTSIDE);
        due(x.go(0, 9), 9);
        due(x.ofBell(1, 2), 8);
        about("7: WIND becomes v (0 .. 2): what it was; STATE: there is no ALP");
        due(x.blow(0), 1);
        due(x.blow(2), 0);
        due(x.blow(3), OUTSIDE);
        due(x.blow(-1), OUTSIDE);
        due(x.blow(2), 2);
        due(x.many(1), 2);
        due(new BellNames().blow(2), STATE);
        about("4 to 7: changes take no READING back");
        x.reading(0, 0, 0);
        x.cheer(0, 0);
        x.recast(0, 0);
        x.go(0, 0);
        x.blow(0);
        due(x.many(3), 1);
    }

    private static void sounds() {
        about("SOUND of a CRACKED one 1 less (0 at least); of a STUFFED one half, cut");
        String[] kinds = {"p", "k", "h"};
        for (int kind = 0; kind < 3; kind++) {
            for (int note = 0; note < 10; note++) {
                for (int wind = 0; wind < 3; wind++) {
                    BellNames x = on("b" + wind + "0;" + kinds[kind] + note + "02");
                    for (int mood = 0; mood < 4; mood++) {
                        int all = note + mood + wind;
                        int due = kind == 0 ? all : kind == 2 ? all / 2 : all == 0 ? 0 : all - 1;
                        due(x.sound(0, mood), due);
                        if (mood == 2) due(x.sound(0, NONE), due);
                    }
                }
            }
        }
        about("8: the least and the greatest SOUND of each kind");
        BellNames x = on("b00;p000;k000;h000;k100;h100");
        for (int b = 0; b < 5; b++) due(x.sound(b, NONE), 0);
        x = on("b20;p903;k903;h903");
        due(x.sound(0, 3), 14);
        due(x.sound(1, 3), 13);
        due(x.sound(2, 3), 7);
        about("8: MOOD 0 .. 3, or NONE: in its own");
        x.cheer(0, 1);
        due(x.sound(0, NONE), 12);
        due(x.sound(0, 0), 11);
        due(x.sound(0, -8), OUTSIDE);
        due(x.sound(0, -10), OUTSIDE);
        due(x.sound(0, -1), OUTSIDE);
        due(x.sound(0, 4), OUTSIDE);
    }

    private static void heard() {
        about("HEARD at a SPOT: BELLS that are no more than REACH off it");
        for (int reach = 0; reach < 10; reach++) {
            for (int at = 0; at < 10; at++) {
                BellNames x = on("b0" + reach + ";p0" + at + "0");
                for (int spot = 0; spot < 10; spot++) {
                    due(x.heard(spot), Math.abs(at - spot) <= reach ? 1 : 0);
                }
            }
        }
        about("9: as a set: none, all five");
        BellNames x = on("b00;p020;p020;p020;p020;p020");
        due(x.heard(2), 31);
        due(x.heard(3), 0);
        x.go(4, 3);
        due(x.heard(2), 15);
        due(x.heard(3), 16);
    }

    private static void taken() {
        about("TAKEN: of those HEARD the one whose SOUND is least off v: of several the least");
        // SOUNDS 5, 3, 5, 9 at SPOTS 0, 0, 0, 9.
        BellNames x = on("b02;p500;p300;p500;p990");
        due(x.taken(0, 4), 0);
        due(x.taken(0, 3), 1);
        due(x.taken(0, 5), 0);
        due(x.taken(0, 0), 1);
        due(x.taken(0, 19), 0);
        due(x.taken(0, 9), 0);
        due(x.taken(9, 0), 3);
        due(x.taken(7, 4), 3);
        about("TAKEN: NONE: none is HEARD");
        due(x.taken(2, 0), 1);
        due(x.taken(3, 0), NONE);
        due(x.taken(6, 19), NONE);
        about("10: v 0 .. 19, as far off as can be");
        BellNames low = on("b00;p000");
        due(low.taken(0, 19), 0);
        due(low.taken(0, 20), OUTSIDE);
        due(low.taken(0, 0), 0);
        due(low.taken(0, -1), OUTSIDE);
        BellNames high = on("b20;p903");
        due(high.taken(0, 0), 0);
        due(high.taken(0, 14), 0);
        about("TAKEN by its SOUND in its own MOOD");
        x.cheer(1, 1);
        due(x.taken(0, 4), 1);
    }

    private static void meant() {
        about("MEANT: those HEARD whose SOUND in some MOOD 0 .. 3 is v");
        BellNames x = on("b11;p503;k503;h500;p590");
        // SOUNDS in MOODS 0 .. 3: 6 7 8 9, 5 6 7 8, 3 3 4 4, and 6 .. 9 out of hearing.
        int[] due = {0, 0, 0, 4, 4, 2, 3, 3, 3, 1, 0};
        for (int v = 0; v < due.length; v++) due("v " + v, x.meant(0, v), due[v]);
        due(x.meant(1, 6), 3);
        due(x.meant(2, 6), 0);
        due(x.meant(9, 6), 8);
        due(x.meant(7, 6), 0);
        due(x.meant(0, 19), 0);
        due(x.meant(0, 20), OUTSIDE);
        about("MEANT by the greatest SOUND and by 0");
        due(on("b20;p900").meant(0, 14), 1);
        due(on("b20;p900").meant(0, 15), 0);
        due(on("b00;k000").meant(0, 0), 1);
    }

    private static void family() {
        about("KIN are two whose SOUNDS are off by 2");
        for (int note = 0; note < 10; note++) {
            BellNames x = on("b00;p500;p" + note + "00");
            int due = note == 3 || note == 7 ? 3 : 1;
            due(x.family(0), due);
            due(x.family(1), due == 3 ? 3 : 2);
        }
        about("FAMILY of a BELL alone; of five in a row; wherever they are");
        due(on("b00;p000").family(0), 1);
        BellNames x = on("b00;p000;p890;p240;p670;p420");
        for (int b = 0; b < 5; b++) due(x.family(b), 31);
        x.recast(4, 5);
        due(x.family(0), 5);
        due(x.family(2), 5);
        due(x.family(1), 10);
        due(x.family(3), 10);
        due(x.family(4), 16);
    }

    /** All that can be asked of GOINGS of n pairs on SHEET 1, a row of ints. */
    private static void goings(BellNames x, int n, int... due) {
        for (int w = 0; w < GOING_QUESTIONS.length; w++) {
            due("what " + GOING_QUESTIONS[w], x.goings(1, 2, 0, n, GOING_QUESTIONS[w]), due[w]);
            due(x.fault(), 0);
        }
    }

    /** n pairs in which BELL 0 goes to 9 and back to 0. */
    private static int[] toAndFro(int n) {
        int[] pairs = new int[2 * n];
        for (int p = 0; p < n; p++) pairs[2 * p + 1] = p % 2 == 0 ? 9 : 0;
        return pairs;
    }

    private static void goingsNoneAndMost() {
        about("13: n 0: how all are now");
        BellNames x = on("b00;p000;p020;p020");
        x.sheet(1, 2, 0);
        goings(x, 0, 1, NONE, 0, 2, 0, 2, 2, NONE, NONE);
        due(x.goings(1, 2, 1, 0, 0), INDEX);
        due(x.goings(1, 2, 0, 1, 0), INDEX);
        about("13: n 20, the most; 21");
        write(x, 1, 2, 0, toAndFro(20));
        goings(x, 20, 1, NONE, 180, 2, 0, 2, 2, NONE, NONE);
        goings(x, 19, 0, NONE, 171, 2, 9, 2, 2, NONE, NONE);
        due(x.goings(1, 2, 0, 21, 0), OUTSIDE);
        due(x.goings(1, 2, 1, 20, 0), INDEX);
        due(x.goings(1, 2, 40, 0, 2), 0);
        due(x.goings(1, 2, 41, 0, 2), INDEX);
        about("13: pairs at the end of the longest row");
        x.sheet(1, 2, 60);
        x.put(1, 59, 5);
        due(x.goings(1, 2, 58, 1, 2), 5);
        due(x.goings(1, 2, 59, 1, 2), INDEX);
        about("13: five BELLS; nothing is changed");
        x = on("b00;p010;p020;p030;p040;p050");
        write(x, 1, 2, 0, 4, 0, 3, 0, 2, 0, 1, 0, 0, 0);
        goings(x, 5, 5, NONE, 15, 0, 0, 0, 0, 0, 0);
        for (int b = 0; b < 5; b++) due(x.ofBell(b, 2), b + 1);
        due(x.heard(0), 0);
    }

    private static void goingsFirstWrong() {
        about("FIRST WRONG: the first that goes to where it is; -100 less that (but what 1)");
        BellNames x = on("b00;p000;p020");
        for (int wrong = 0; wrong < 20; wrong++) {
            int[] pairs = toAndFro(20);
            pairs[2 * wrong + 1] = wrong % 2 == 0 ? 0 : 9;
            write(x, 1, 2, 0, pairs);
            due(x.goings(1, 2, 0, 20, 1), wrong);
            due(x.goings(1, 2, 0, 20, 2), -100 - wrong);
            due(x.goings(1, 2, 0, wrong, 1), NONE);
            due(x.goings(1, 2, 0, wrong, 2), 9 * wrong);
            x = on("b00;p000;p020");
        }
        about("FIRST WRONG by where it is then, not by where it is now");
        write(x, 1, 2, 0, 1, 5, 1, 2, 0, 0, 1, 2);
        goings(x, 4, -102, 2, -102, -102, -102, -102, -102, -102, -102);
        goings(x, 2, 1, NONE, 6, 0, 0, 2, NONE, NONE, NONE);
        due(x.goings(1, 2, 2, 1, 1), 0);
        due(x.goings(1, 2, 2, 1, 0), -100);
    }

    private static void goingsAnswers() {
        about("13: the SPOT at which the most are HEARD then; of several the least");
        BellNames x = on("b01;p020;p090");
        write(x, 1, 0, 0, 1, 5, 1, 4, 0, 9, 1, 9);
        int[] due = {1, 1, 3, 3, 8};
        for (int n = 0; n < 5; n++) due("of " + n, x.goings(1, 0, 0, n, 3), due[n]);
        write(x, 1, 0, 0, 0, 0, 1, 0);
        due(x.goings(1, 0, 0, 2, 3), 0);
        about("13: how many are HEARD at SPOT 0 behind them, by REACH");
        write(x, 1, 0, 0, 0, 1, 1, 0, 0, 2);
        due(x.goings(1, 0, 0, 0, 0), 0);
        due(x.goings(1, 0, 0, 1, 0), 1);
        due(x.goings(1, 0, 0, 2, 0), 2);
        due(x.goings(1, 0, 0, 3, 0), 1);
        about("13: where BELL b is then (10 and b; NONE: there is no such BELL)");
        due(x.goings(1, 0, 0, 3, 10), 2);
        due(x.goings(1, 0, 0, 3, 11), 0);
        due(x.goings(1, 0, 0, 3, 12), NONE);
        due(x.goings(1, 0, 0, 3, 14), NONE);
        due(x.goings(1, 0, 0, 3, 15), OUTSIDE);
        due(x.goings(1, 0, 0, 3, 9), OUTSIDE);
        due(x.goings(1, 0, 0, 3, 4), OUTSIDE);
        about("13: cells of any LANE");
        for (int lane = 0; lane < 3; lane++) {
            write(x, 1, lane, 0, 256 + 1, 65536 + 3);
            due(x.goings(1, lane, 0, 1, 11), lane == 0 ? 3 : UNKNOWN);
            write(x, 1, lane, 0, 1, 65536 + 3);
            due(x.goings(1, lane, 0, 1, 11), lane < 2 ? 3 : OUTSIDE);
        }
    }

    private static void post() {
        about("POST: the least SPOT at which all of it are HEARD; NONE");
        for (int reach = 0; reach < 5; reach++) {
            for (int at = 0; at < 10; at++) {
                BellNames x = on("b0" + reach + ";p000;p0" + at + "0");
                due(x.post(3), at <= 2 * reach ? Math.max(0, at - reach) : NONE);
            }
        }
        about("14: the empty set; all five; a set with one more than there are");
        BellNames x = on("b00;p030;p030;p030;p030;p030");
        due(x.post(0), 0);
        due(x.post(31), 3);
        due(x.post(32), OUTSIDE);
        due(x.post(33), OUTSIDE);
        due(x.post(-1), OUTSIDE);
        due(x.post(LEAST), OUTSIDE);
        x.go(4, 9);
        due(x.post(31), NONE);
        due(x.post(15), 3);
        due(x.post(16), 9);
        BellNames one = on("b00;p090");
        due(one.post(1), 9);
        due(one.post(2), OUTSIDE);
    }

    private static void call() {
        about("CALL: the fewest STEPS of them together: of several the least SPOT");
        BellNames x = on("b00;p020;p060;p090");
        due(x.call(1, 0), 2);
        due(x.call(1, 1), 0);
        due(x.call(3, 0), 2);
        due(x.call(3, 1), 4);
        due(x.call(7, 0), 6);
        due(x.call(7, 1), 7);
        about("CALL: each goes as far as need be, by REACH");
        x = on("b01;p020;p060;p090");
        due(x.call(3, 0), 3);
        due(x.call(3, 1), 2);
        due(x.call(7, 0), 5);
        due(x.call(7, 1), 5);
        due(x.call(4, 0), 8);
        due(x.call(4, 1), 0);
        about("CALL of one BELL: where it is, or the least SPOT at which it is HEARD");
        for (int at = 0; at < 10; at++) {
            due(on("b00;p0" + at + "0").call(1, 0), at);
            due(on("b03;p0" + at + "0").call(1, 0), Math.max(0, at - 3));
        }
        about("15: the empty set; all at one end, or at both; the most STEPS");
        due(x.call(0, 0), 0);
        due(x.call(0, 1), 0);
        x = on("b00;p090;p090;p090;p090;p090");
        due(x.call(31, 0), 9);
        due(x.call(31, 1), 0);
        x = on("b00;p000;p000;p090;p090;p090");
        due(x.call(31, 0), 9);
        due(x.call(31, 1), 18);
        x = on("b09;p000;p090");
        due(x.call(3, 0), 0);
        due(x.call(3, 1), 0);
    }

    private static void cast() {
        about("CAST: the least NOTE 0 .. 9 by which none of its SOUNDS is one of another BELL's; NONE");
        due(on("b00;p900").cast(0), 0);
        // Others sound 5 .. 8 and 0 .. 3: NOTE 8 (8 .. 11) meets the 8, NOTE 9 (9 .. 12) nothing.
        due(on("b00;p000;k600;p000").cast(0), 9);
        // Others sound 6 .. 9 and 0 .. 3: NOTE 9 meets the 9.
        due(on("b00;p000;k700;p000").cast(0), NONE);
        // Others sound 4 .. 7: NOTE 0 (0 .. 3) is just below; 3 .. 6: NOTE 7 (7 .. 10) is just above.
        due(on("b00;p000;p400").cast(0), 0);
        due(on("b00;p000;p300").cast(0), 7);
        about("CAST: SOUNDS that two others have, or that another has in two MOODS");
        due(on("b00;p000;p000;p000").cast(0), 4);
        due(on("b00;p000;h000").cast(0), 2);
        due(on("b00;h000;h000").cast(0), 4);
        about("CAST: by all MOODS, not by its own; its own NOTE is free, too");
        due(on("b00;p403;p000").cast(0), 4);
        due(on("b00;p400;p003").cast(0), 4);
        due(on("b00;p003;p003").cast(1), 4);
        about("CAST by the WIND that blows and by REACH of none");
        due(on("b20;k000;p000").cast(0), 5);
        due(on("b00;p000;p090").cast(0), 4);
        about("CAST changes no NOTE");
        BellNames x = on("b00;p700;p000");
        x.cast(0);
        due(x.ofBell(0, 1), 7);
    }

    /** k -1 .. 4 of the CHOIR. */
    private static void choir(String text, int... due) {
        for (int k = -1; k < 5; k++) {
            int want = k + 1 < due.length ? due[k + 1] : NONE;
            due(text + " " + k, on(text).choir(k), want);
        }
    }

    private static void choir() {
        about("17: one BELL is a CHOIR as it is");
        choir("b00;p003", 0, 3);
        about("CHOIR: by which the fewest MOODS are changed: none, one, several");
        choir("b00;p303;p301", 0, 3, 1);
        choir("b00;p303;p302", 1, 0, 2);
        choir("b00;p303;p603", 1, 3, 2);
        about("CHOIR: of several the first as a row");
        // One change is enough: MOODS 0 2 or 2 0, and 0 2 is the first.
        choir("b00;p302;p302", 1, 0, 2);
        choir("b00;p300;p300", 1, 0, 2);
        // 0 0 (SOUNDS 3 and 5) or 3 3 (6 and 8): the first and the last row.
        choir("b00;p303;p500", 1, 0, 0);
        choir("b00;p300;p500", 0, 0, 0);
        choir("b00;p303;p503", 0, 3, 3);
        about("CHOIR: as far off as can be, and one more: NONE: there are none");
        choir("b00;p003;p500", 0, 3, 0);
        choir("b00;p000;p500", 1, 3, 0);
        choir("b00;p000;p503", 2, 3, 0);
        choir("b00;p000;p600");
        choir("b00;p003;p600");
        about("CHOIR: all five changed, MOOD of BELL 4; no such BELL");
        // BELL 4 (1 .. 4) meets the others (6 at least) by 4 and 6 alone; so all must be even, and all are odd.
        choir("b00;p603;p702;p601;p801;p100", 5, 0, 1, 0, 0, 3);
        choir("b00;p001;p101;p201;p301;p401", 2, 1, 0, 1, 0, 1);
        BellNames x = on("b00;p302;p302");
        x.choir(-1);
        due(x.ofBell(0, 3), 2);
        due(x.ofBell(1, 3), 2);
        due(x.choir(2), NONE);
        due(x.choir(4), NONE);
        due(x.choir(5), OUTSIDE);
        due(x.choir(-2), OUTSIDE);
        due(x.choir(NONE), OUTSIDE);
    }

    private static void readingsFull() {
        about("READINGS, 8 at most, numbered by how many there are; 18: FULL");
        BellNames x = on(FIVE);
        for (int r = 0; r < 8; r++) {
            due(x.reading(4 - r % 5, r % 4, r % 2 == 0 ? 0 : 19), r);
            due(x.many(3), r + 1);
        }
        due(x.reading(0, 0, 0), FULL);
        due(x.many(3), 8);
        due(x.back(1), 7);
        due(x.reading(0, 0, 0), 7);
        due(x.reading(0, 0, 0), FULL);
        about("18: the same READING twice counts twice; one that can't be so is kept");
        x = on("b00;p000");
        due(x.reading(0, 0, 19), 0);
        due(x.reading(0, 0, 19), 1);
        due(x.many(3), 2);
    }

    private static void readingsTakenBack() {
        about("19: the last k READINGS (0 .. as many as there are)");
        BellNames x = on("b00;p500;p500");
        due(x.back(0), 0);
        due(x.back(1), OUTSIDE);
        x.reading(0, 0, 5);
        x.reading(1, 0, 4);
        x.reading(1, 0, 3);
        due(x.back(0), 3);
        due(x.back(4), OUTSIDE);
        due(x.back(GREATEST), OUTSIDE);
        due(x.back(LEAST), OUTSIDE);
        due(x.notes(1), 0);
        due(x.back(1), 2);
        due(x.notes(1), 1 << 4);
        due(x.back(2), 0);
        due(x.notes(1), 1023);
        for (int r = 0; r < 8; r++) x.reading(0, 0, 5);
        due(x.back(8), 0);
        due(x.many(3), 0);
        due(new BellNames().back(0), 0);
        due(new BellNames().back(1), OUTSIDE);
        due(new BellNames().back(-1), OUTSIDE);
    }

    private static void notes() {
        about("NOTES: 0 .. 9, by which all READINGS are so; all, if there are none; none");
        BellNames x = on("b00;p500;h500;k500");
        due(x.notes(0), 1023);
        x.reading(0, 0, 0);
        due(x.notes(0), 1);
        x.back(1);
        x.reading(0, 3, 12);
        due(x.notes(0), 1 << 9);
        x.back(1);
        x.reading(0, 3, 13);
        due(x.notes(0), 0);
        x.back(1);
        x.reading(0, 3, 2);
        due(x.notes(0), 0);
        x.back(1);
        about("NOTES of a STUFFED and a CRACKED one, at the least SOUND");
        x.reading(1, 0, 0);
        due(x.notes(1), 3);
        x.back(1);
        x.reading(1, 3, 6);
        due(x.notes(1), 1 << 9);
        x.back(1);
        x.reading(2, 0, 0);
        due(x.notes(2), 3);
        about("all READINGS are so: those of others, too");
        due(x.notes(0), 0);
        x.recast(2, 1);
        due(x.notes(0), 1023);
    }

    private static void kinds() {
        about("KINDS: 0 .. 2, by which all READINGS are so");
        BellNames x = on("b00;h000;p500");
        due(x.kinds(0), 7);
        x.reading(0, 0, 0);
        due(x.kinds(0), 7);
        x.reading(0, 1, 0);
        due(x.kinds(0), 6);
        x.reading(0, 2, 1);
        due(x.kinds(0), 6);
        x.reading(0, 3, 1);
        due(x.kinds(0), 4);
        due(x.kinds(1), 7);
        x.reading(1, 3, 9);
        due(x.kinds(1), 0);
        due(x.kinds(0), 0);
        x.back(1);
        x.reading(1, 3, 8);
        due(x.kinds(1), 1);
        x.back(1);
        x.reading(1, 3, 7);
        due(x.kinds(1), 2);
        x.back(1);
        x.reading(1, 3, 4);
        due(x.kinds(1), 4);
    }

    private static void winds() {
        about("WINDS: 0 .. 2, by which all READINGS are so");
        BellNames x = on("b10;p500;h500");
        due(x.winds(), 7);
        for (int v = 4; v <= 9; v++) {
            x.reading(0, 0, v);
            due(x.winds(), v >= 5 && v <= 7 ? 1 << v - 5 : 0);
            x.back(1);
        }
        x.reading(1, 0, 2);
        due(x.winds(), 1);
        x.back(1);
        x.reading(1, 0, 3);
        due(x.winds(), 6);
        x.reading(0, 3, 10);
        due(x.winds(), 4);
        due(x.many(1), 1);
        x.reading(0, 3, 9);
        due(x.winds(), 0);
        about("WINDS by each BELL's own NOTE");
        x = on("b00;p500;p900");
        x.reading(0, 0, 6);
        x.reading(1, 0, 10);
        due(x.winds(), 2);
    }

    private static void share(BellNames x, int spot, int v, long upper, long lower) {
        due(x.odds(spot, v, 0), upper);
        due(x.odds(spot, v, 1), lower);
    }

    private static void odds() {
        about("ODDS: none is HEARD, none SOUNDS v: 0 of 1");
        BellNames x = on("b00;p500;p500;p500;p500;p500");
        share(x, 1, 5, 0, 1);
        share(x, 0, 4, 0, 1);
        share(x, 0, 9, 0, 1);
        share(x, 0, 19, 0, 1);
        about("ODDS: of one to five in four MOODS, in least terms");
        long[] upper = {781, 175, 37, 7, 1, 0};
        long[] lower = {1024, 256, 64, 16, 4, 1};
        for (int gone = 0; gone <= 5; gone++) {
            share(x, 0, 5, upper[gone], lower[gone]);
            share(x, 0, 8, upper[gone], lower[gone]);
            if (gone < 5) x.go(gone, 9);
        }
        x = on("b00;h000;h000;h000;h000;h000");
        share(x, 0, 0, 31, 32);
        share(x, 0, 1, 31, 32);
        share(x, 0, 2, 0, 1);
        share(on("b00;h000"), 0, 0, 1, 2);
        share(on("b00;k000"), 0, 0, 1, 2);
        share(on("b00;h100"), 0, 1, 1, 2);
        share(on("b00;h100"), 0, 2, 1, 4);
        about("23: which 0, 1; v 0 .. 19; SPOT 0 .. 9");
        due(x.odds(9, 19, 1), 1);
        due(x.odds(10, 19, 1), LOST);
        due(x.odds(9, 20, 1), LOST);
        due(x.odds(9, 19, 2), LOST);
        due(x.odds(-1, 0, 0), LOST);
        due(x.odds(0, -1, 0), LOST);
        due(x.odds(0, 0, -1), LOST);
        due(new BellNames().odds(0, 0, 0), LOST);
    }

    private static void sheetsNew() {
        about("SHEETS have a row of 0 .. 60 numbers (0 at first)");
        BellNames x = new BellNames();
        for (int lane = 0; lane < 3; lane++) {
            due(x.sheet(3, lane, 60), 1);
            due(x.cell(3, 0, lane), 0);
            due(x.cell(3, 59, lane), 0);
            due(x.cell(3, 60, lane), LOST);
            due(x.fault(), 3);
            x.put(3, 0, 1);
            x.put(3, 59, 1);
            due(x.sheet(3, lane, 0), 1);
            due(x.cell(3, 0, lane), LOST);
            due(x.fault(), 3);
        }
        about("24: a new row of any length has 0 alone, whatever was there");
        for (int n = 1; n <= 60; n += 59) {
            x.sheet(0, 2, 60);
            for (int i = 0; i < 60; i++) x.put(0, i, -1);
            due(x.sheet(0, 2, n), 1);
            due(x.cell(0, n - 1, 2), 0);
            x.sheet(0, 2, 60);
            due(x.cell(0, 59, 2), 0);
        }
        about("24: one that is refused leaves the row");
        x = new BellNames();
        write(x, 0, 1, 0, 5, 6);
        due(x.sheet(0, 1, 61), OUTSIDE);
        due(x.fault(), 0);
        due(x.sheet(0, 3, 5), OUTSIDE);
        due(x.sheet(0, 1, -1), SIZE);
        due(x.sheet(0, 1, LEAST), SIZE);
        due(x.fault(), 4);
        due(x.cell(0, 0, 1), 5);
        due(x.cell(0, 1, 1), 6);
        about("24: SHEETS 0 .. 3, each for itself");
        for (int k = 0; k < 4; k++) write(x, k, k % 3, 0, k + 40);
        for (int k = 0; k < 4; k++) due(x.cell(k, 0, k % 3), k + 40);
    }

    private static void sheetsLost() {
        about("25: a SHEET has nothing: 1; 0: it had nothing");
        BellNames x = new BellNames();
        for (int k = 0; k < 4; k++) {
            due(x.lose(k), 0);
            x.sheet(k, 0, 0);
            due(x.lose(k), 1);
            due(x.lose(k), 0);
            due(x.put(k, 0, 0), NULL);
            due(x.cell(k, 0, 0), LOST);
            due(x.fault(), 1);
        }
        about("25: others stay, and what is made anew has 0 alone");
        write(x, 0, 0, 0, 5);
        write(x, 1, 0, 0, 6);
        due(x.lose(0), 1);
        due(x.cell(1, 0, 0), 6);
        x.sheet(0, 0, 1);
        due(x.cell(0, 0, 0), 0);
    }

    private static void cut(BellNames x, int lane, int v, int want) {
        x.put(lane, 0, v);
        due("lane " + lane + " " + v, x.cell(lane, 0, lane), want);
    }

    private static void cellsCut() {
        about("what comes to a cell is cut to its LANE");
        BellNames x = new BellNames();
        for (int lane = 0; lane < 3; lane++) x.sheet(lane, lane, 1);
        int[][] bytes = {{127, 127}, {128, -128}, {-128, -128}, {-129, 127}, {255, -1}, {256, 0}, {-256, 0},
            {GREATEST, -1}, {LEAST, 0}, {LEAST + 1, 1}};
        for (int[] row : bytes) cut(x, 0, row[0], row[1]);
        int[][] shorts = {{128, 128}, {32767, 32767}, {32768, -32768}, {-32768, -32768}, {-32769, 32767}, {65535, -1},
            {65536, 0}, {-65536, 0}, {GREATEST, -1}, {LEAST, 0}, {LEAST + 1, 1}};
        for (int[] row : shorts) cut(x, 1, row[0], row[1]);
        int[] ints = {0, -1, 128, 32768, 65536, GREATEST, LEAST};
        for (int v : ints) cut(x, 2, v, v);
    }

    private static void cellsAtTheEnds() {
        about("26 and 27: cells 0 .. one less than there are; INDEX");
        for (int n = 0; n <= 60; n += 20) {
            BellNames x = new BellNames();
            x.sheet(0, 2, n);
            for (int i : new int[] {LEAST, -1, 0, n - 1, n, n + 1, 60, GREATEST}) {
                boolean isThere = i >= 0 && i < n;
                due(x.put(0, i, 7), isThere ? 1 : INDEX);
                due(x.fault(), isThere ? 0 : 3);
                due(x.cell(0, i, 2), isThere ? 7 : LOST);
                due(x.fault(), isThere ? 0 : 3);
            }
        }
        about("27: CAST goes ahead of INDEX, nothing is no CAST");
        BellNames x = new BellNames();
        x.sheet(0, 1, 1);
        due(x.cell(0, 1, 0), LOST);
        due(x.fault(), 2);
        due(x.cell(0, 1, 1), LOST);
        due(x.fault(), 3);
        due(x.cell(1, 1, 0), LOST);
        due(x.fault(), 1);
    }

    private static void cellsAre(BellNames x, int k, int lane, int... want) {
        for (int i = 0; i < want.length; i++) due(x.cell(k, i, lane), want[i]);
    }

    private static void copies() {
        about("28: as they were, to the same SHEET, forth and back");
        BellNames x = new BellNames();
        write(x, 0, 2, 0, 1, 2, 3, 4, 5);
        due(x.copy(0, 0, 0, 1, 4), 4);
        cellsAre(x, 0, 2, 1, 1, 2, 3, 4);
        due(x.copy(0, 2, 0, 1, 3), 3);
        cellsAre(x, 0, 2, 1, 2, 3, 4, 4);
        due(x.copy(0, 0, 0, 0, 5), 5);
        cellsAre(x, 0, 2, 1, 2, 3, 4, 4);
        about("28: the whole row, the last cell, none");
        x.sheet(1, 2, 5);
        due(x.copy(0, 0, 1, 0, 5), 5);
        cellsAre(x, 1, 2, 1, 2, 3, 4, 4);
        due(x.copy(0, 0, 1, 4, 1), 1);
        due(x.copy(0, 4, 1, 0, 1), 1);
        cellsAre(x, 1, 2, 4, 2, 3, 4, 1);
        due(x.copy(0, 5, 1, 5, 0), 0);
        due(x.fault(), 0);
        cellsAre(x, 1, 2, 4, 2, 3, 4, 1);
        about("28: INDEX: i, j, n below 0 or beyond");
        int[][] beyond = {{0, 0, 6}, {1, 0, 5}, {0, 1, 5}, {5, 0, 1}, {0, 5, 1}, {6, 0, 0}, {0, 6, 0}, {-1, 0, 0},
            {0, -1, 0}, {0, 0, -1}, {-1, 0, 2}, {0, -1, 2}, {3, 3, -1}, {GREATEST, 0, 1}, {0, GREATEST, 1},
            {1, 1, GREATEST}, {GREATEST, GREATEST, GREATEST}, {LEAST, LEAST, LEAST}, {0, 0, LEAST}};
        for (int[] row : beyond) {
            due(x.copy(0, row[0], 1, row[1], row[2]), INDEX);
            due(x.fault(), 3);
        }
        cellsAre(x, 0, 2, 1, 2, 3, 4, 4);
        cellsAre(x, 1, 2, 4, 2, 3, 4, 1);
        about("28: NULL, the first, the other; CAST: unlike LANES, also of no cells");
        due(x.copy(0, 0, 2, 0, 0), NULL);
        due(x.copy(2, 0, 0, 0, 0), NULL);
        due(x.copy(2, 0, 2, 0, 0), NULL);
        due(x.copy(2, 0, 3, -1, -1), NULL);
        x.sheet(2, 1, 0);
        due(x.copy(0, 0, 2, 0, 0), CAST);
        due(x.copy(2, 0, 0, 0, 0), CAST);
        due(x.copy(2, 0, 2, 0, 0), 0);
        due(x.copy(2, 0, 2, 0, 1), INDEX);
        about("28: a row of 60, and a number of no other LANE's size");
        x.sheet(2, 2, 60);
        x.sheet(3, 2, 60);
        x.put(2, 0, LEAST);
        x.put(2, 59, GREATEST);
        due(x.copy(2, 0, 3, 0, 60), 60);
        due(x.cell(3, 0, 2), LEAST);
        due(x.cell(3, 59, 2), GREATEST);
        due(x.copy(2, 0, 3, 0, 61), INDEX);
    }

    private static void tellings() {
        about("29: NOTE; and 100; what CRACKED's and what PLAIN's gives: by the least and the greatest NOTE");
        BellNames x = on("b20;p003;k003;h003");
        due(x.tell(0), 0);
        due(x.tell(1), 100);
        due(x.tell(2), 100);
        for (int b = 0; b < 3; b++) x.recast(b, 9);
        due(x.tell(0), 9);
        due(x.tell(1), 109);
        due(x.tell(2), 118);
        about("bodies leave their number in TRACE as they begin");
        int[][] left = {{1}, {2, 1}, {3, 2, 1, 1}};
        for (int b = 0; b < 3; b++) {
            BellNames y = on("b00;p000;k000;h000");
            y.tell(b);
            int due = 0;
            for (int number : left[b]) due = 31 * due + number;
            due(y.trace(), due);
        }
        about("29: a refused one leaves nothing in TRACE");
        BellNames y = on("b00;p000");
        due(y.tell(1), UNKNOWN);
        due(y.tell(-1), UNKNOWN);
        due(y.echo(1), UNKNOWN);
        due(y.trace(), 0);
    }

    private static void echoes() {
        about("30: its number (of the BELL: 0 .. 4); STUFFED ones: 20");
        BellNames x = on("b00;p900;k900;h900;p900;k900");
        int[] due = {0, 1, 20, 3, 4};
        int[] left = {4, 4, 5, 4, 4};
        int trace = 0;
        for (int b = 0; b < 5; b++) {
            due(x.echo(b), due[b]);
            trace = 31 * trace + left[b];
            due(x.trace(), trace);
        }
        due(on("b00;h900").echo(0), 20);
    }

    private static void as() {
        about("31: each is a PLAIN, too; a STUFFED one is CRACKED; CAST: it is none");
        BellNames x = on("b00;p000;k000;h000");
        for (int b = 0; b < 3; b++) {
            for (int kind = 0; kind < 3; kind++) {
                due(x.as(b, kind), kind <= b ? 1 : CAST);
                due(x.fault(), kind <= b ? 0 : 2);
            }
            due(x.as(b, 3), OUTSIDE);
            due(x.fault(), 0);
            due(x.as(b, -1), OUTSIDE);
        }
        due(x.ofBell(2, 0), 2);
    }

    private static void traceWraps() {
        about("TRACE, an int that wraps: 31 times it and the number");
        BellNames x = on("b00;p000;k000;h000");
        for (int c = 0; c < 6; c++) x.echo(0);
        due(x.trace(), 118333824);
        x.echo(0);
        due(x.trace(), -626618748);
        x.echo(0);
        due(x.trace(), 2049655296);
        BigInteger whole = BigInteger.valueOf(x.trace());
        int[][] left = {{1}, {2, 1}, {3, 2, 1, 1}};
        for (int c = 0; c < 100; c++) {
            int b = c % 3;
            x.tell(b);
            for (int number : left[b]) whole = whole.multiply(BigInteger.valueOf(31)).add(BigInteger.valueOf(number));
            due(x.trace(), whole.intValue());
        }
        about("32: TRACE stays by a TEXT and by calls that tell nothing");
        int trace = x.trace();
        x.sound(0, 0);
        x.as(0, 0);
        x.family(0);
        due(x.trace(), trace);
        alp(x, 0, "b00;p000");
        due(x.trace(), trace);
    }

    private static void fault() {
        about("33: 0 ahead of any");
        due(new BellNames().fault(), 0);
        BellNames x = on("b00;p000");
        due(x.fault(), 0);
        about("33: of the latest call that names one: calls that name none leave it");
        due(x.as(0, 1), CAST);
        long[] others = {x.ofBell(9, 0), x.cheer(0, 9), x.recast(0, 0), x.go(0, 1), x.blow(9), x.sound(0, 9), x.heard(0),
            x.taken(0, 0), x.meant(0, 99), x.family(0), x.post(0), x.call(9, 0), x.cast(0), x.choir(0), x.reading(0, 0, 0),
            x.back(9), x.notes(0), x.kinds(9), x.winds(), x.odds(0, 0, 9), x.lose(1), x.lose(9), x.tell(0), x.echo(9),
            x.trace(), x.many(9), x.fault()};
        due(others[others.length - 1], 2);
        due(x.fault(), 2);
        about("33: 0: it came to none, or was refused");
        write(x, 1, 2, 0, 0);
        long[][] answers = {{1, 0}, {-1, 1}, {1, 2}, {-1, 3}, {-2, 4}, {0, 5}, {LOST, 6}, {LOST, 7}, {1, 8}, {-1, 9},
            {1, 10}, {-1, 11}, {-2, 12}, {0, 13}, {-2, 14}, {-100, 15}, {-2, 16}};
        for (long[] row : answers) {
            due(x.sheet(0, 0, -1), SIZE);
            due(x.fault(), 4);
            due("way " + row[1], withoutFault(x, (int) row[1]), row[0]);
            due("way " + row[1], x.fault(), 0);
        }
    }

    /** Each call that names FAULTS, once as it is taken and as it is refused. */
    private static long withoutFault(BellNames x, int way) {
        return switch (way) {
            case 0 -> x.put(1, 0, 0);
            case 1 -> x.put(9, 0, 0);
            case 2 -> x.sheet(2, 0, 0);
            case 3 -> x.sheet(9, 0, -1);
            case 4 -> x.sheet(2, 0, 61);
            case 5 -> x.cell(1, 0, 2);
            case 6 -> x.cell(9, 0, 0);
            case 7 -> x.cell(1, 0, 9);
            case 8 -> x.copy(1, 0, 1, 0, 1);
            case 9 -> x.copy(1, 0, 9, 0, 0);
            case 10 -> x.as(0, 0);
            case 11 -> x.as(9, 0);
            case 12 -> x.as(0, 9);
            case 13 -> x.goings(1, 2, 0, 0, 2);
            case 14 -> x.goings(1, 2, 0, 0, 9);
            case 15 -> x.alp(1, 2, 0, 0);
            default -> x.alp(1, 9, 0, 0);
        };
    }

    private static void many() {
        about("34: 0 BELLS, 1 WIND, 2 REACH, 3 READINGS: the least and the greatest");
        BellNames x = on("b29;p000;p000;p000;p000;p000");
        for (int r = 0; r < 8; r++) x.reading(0, 0, 0);
        int[] most = {5, 2, 9, 8};
        for (int what = 0; what < 4; what++) due(x.many(what), most[what]);
        x = on("b00;p000");
        int[] least = {1, 0, 0, 0};
        for (int what = 0; what < 4; what++) due(x.many(what), least[what]);
        about("34: 0 all without an ALP; OUTSIDE");
        for (int what = 0; what < 4; what++) due(new BellNames().many(what), 0);
        due(new BellNames().many(4), OUTSIDE);
        due(new BellNames().many(-1), OUTSIDE);
    }

    private static void theLastCall() {
        about("an object is used for at most 512 calls: the 512th is as the others");
        BellNames x = on("b00;h900");
        // The TEXT took 10 calls.
        for (int c = 11; c < 512; c++) due("call " + c, x.cheer(0, c % 4), c == 11 ? 0 : (c - 1) % 4);
        due("call 512", x.sound(0, NONE), 6);
    }
}
