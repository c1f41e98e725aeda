/** Each promise of the document by ordinary inputs, by its edges and by wrong inputs; the due answers are worked out by hand. */
public final class PromiseTest extends Bench {
    /** WIND 1, REACH 2; SOUNDS now 4, 7, 6, 3, 4 at SPOTS 1, 5, 7, 9, 4. */
    private static final String FIVE = "b12;p310;k552;h873;p191;k440";

    private static void of(int promise) {
        about("promise " + promise);
    }

    private static void goingsAll(BellNames x, int n, int... wants) {
        int[] whats = {0, 1, 2, 3, 10, 11, 12, 13, 14};
        for (int w = 0; w < whats.length; w++) due(x.goings(1, 2, 0, n, whats[w]), wants[w]);
    }

    public static void main(String[] args) {
        aNewObject();
        alpTexts();
        alpFaults();
        alpAnew();
        ofBell();
        changes();
        sound();
        heardTakenMeant();
        family();
        goings();
        goingsRefused();
        postAndCall();
        cast();
        choir();
        readings();
        notesKindsWinds();
        odds();
        sheets();
        cells();
        copies();
        tellings();
        as();
        fault();
        many();
        constants();
        end();
    }

    private static void aNewObject() {
        of(1);
        BellNames x = new BellNames();
        for (int what = 0; what < 4; what++) due(x.many(what), 0);
        for (int k = 0; k < 4; k++) {
            due(x.lose(k), 0);
            due(x.put(k, 0, 1), NULL);
            due(x.cell(k, 0, 0), LOST);
            due(x.fault(), 1);
        }
        due(x.ofBell(0, 0), UNKNOWN);
        due(x.heard(0), STATE);
        due(x.trace(), 0);
        due(new BellNames().fault(), 0);
    }

    private static void alpTexts() {
        of(2);
        for (int lane = 0; lane < 3; lane++) {
            BellNames x = new BellNames();
            due(alp(x, lane, FIVE), 5);
            due(alp(x, lane, "b00;p000"), 1);
            due(alp(x, lane, "b29;h993;k000"), 2);
            due(alp(x, lane, ""), -100);
            due(alp(x, lane, "b12;"), -104);
            due(alp(x, lane, "b12"), -103);
            due(alp(x, lane, "x"), -100);
            due(alp(x, lane, "b3"), -101);
            due(alp(x, lane, "b/"), -101);
            due(alp(x, lane, "b1:"), -102);
            due(alp(x, lane, "b12,"), -103);
            due(alp(x, lane, "b12;q"), -104);
            due(alp(x, lane, "b12;p/"), -105);
            due(alp(x, lane, "b12;p3:"), -106);
            due(alp(x, lane, "b12;p314"), -107);
            due(alp(x, lane, "b12;p310p"), -108);
            due(alp(x, lane, "b12;p310;"), -109);
            due(alp(x, lane, FIVE + ";"), -128);
            due(alp(x, lane, FIVE + ";p000"), -128);
            due(alp(x, lane, "b12;p31;"), -107);
            due(x.many(0), 2);
        }
    }

    private static void alpFaults() {
        of(2);
        BellNames x = new BellNames();
        due(x.alp(-1, 9, 0, -1), UNKNOWN);
        due(x.alp(4, 0, 0, 0), UNKNOWN);
        due(x.alp(0, 3, 0, 0), OUTSIDE);
        due(x.alp(0, -1, 0, 0), OUTSIDE);
        due(x.alp(0, 1, 0, -1), NULL);
        due(x.fault(), 1);
        write(x, 0, 1, 2, codes("b00;p000"));
        due(x.alp(0, 0, 0, -1), CAST);
        due(x.fault(), 2);
        due(x.alp(0, 1, 99, -1), SIZE);
        due(x.fault(), 4);
        due(x.alp(0, 1, 2, 9), INDEX);
        due(x.fault(), 3);
        due(x.alp(0, 1, -1, 8), INDEX);
        due(x.alp(0, 1, -1, 0), INDEX);
        due(x.alp(0, 1, 11, 0), INDEX);
        due(x.alp(0, 1, 2, Integer.MAX_VALUE), INDEX);
        due(x.alp(0, 1, Integer.MAX_VALUE, Integer.MAX_VALUE), INDEX);
        due(x.alp(0, 1, 10, 0), -100);
        due(x.fault(), 0);
        due(x.alp(0, 1, 1, 9), -100);
        due(x.alp(0, 1, 2, 8), 1);
        due(x.fault(), 0);
        write(x, 0, 2, 0, 98 + 256, 48, 48);
        due(x.alp(0, 2, 0, 3), -100);
        write(x, 0, 2, 0, 98, Integer.MIN_VALUE + 1);
        due(x.alp(0, 2, 0, 2), -101);
    }

    private static void alpAnew() {
        of(2);
        BellNames x = on(FIVE);
        x.reading(0, 0, 0);
        x.tell(0);
        due(alp(x, 2, "b12;p310;"), -109);
        due(x.many(3), 1);
        due(x.many(0), 5);
        due(alp(x, 2, "b04;h471"), 1);
        due(x.many(3), 0);
        due(x.many(1), 0);
        due(x.many(2), 4);
        due(x.ofBell(0, 0), 2);
        due(x.ofBell(1, 0), UNKNOWN);
        due(x.cell(0, 0, 2), 98);
        due(x.trace(), 1);
    }

    private static void ofBell() {
        of(3);
        BellNames x = on(FIVE);
        int[] wants = {2, 8, 7, 3};
        for (int what = 0; what < 4; what++) due(x.ofBell(2, what), wants[what]);
        due(x.ofBell(2, 4), OUTSIDE);
        due(x.ofBell(2, -1), OUTSIDE);
        due(x.ofBell(5, 9), UNKNOWN);
        due(x.ofBell(-1, 0), UNKNOWN);
    }

    private static void changes() {
        BellNames x = on(FIVE);
        of(4);
        due(x.cheer(1, 3), 2);
        due(x.cheer(1, 0), 3);
        due(x.ofBell(1, 3), 0);
        due(x.cheer(1, 4), OUTSIDE);
        due(x.cheer(1, -1), OUTSIDE);
        due(x.cheer(5, 4), UNKNOWN);
        due(x.cheer(-1, 0), UNKNOWN);
        due(x.ofBell(1, 3), 0);
        of(5);
        due(x.recast(1, 9), 5);
        due(x.recast(1, 0), 9);
        due(x.ofBell(1, 1), 0);
        due(x.recast(1, 10), OUTSIDE);
        due(x.recast(1, -1), OUTSIDE);
        due(x.recast(5, 10), UNKNOWN);
        due(x.ofBell(1, 1), 0);
        of(6);
        due(x.go(1, 9), 5);
        due(x.go(1, 0), 9);
        due(x.ofBell(1, 2), 0);
        due(x.go(1, 10), OUTSIDE);
        due(x.go(1, -1), OUTSIDE);
        due(x.go(-1, 10), UNKNOWN);
        due(x.ofBell(1, 2), 0);
        of(7);
        due(x.blow(2), 1);
        due(x.blow(0), 2);
        due(x.many(1), 0);
        due(x.blow(3), OUTSIDE);
        due(x.blow(-1), OUTSIDE);
        due(x.many(1), 0);
        due(new BellNames().blow(0), STATE);
        due(new BellNames().blow(3), OUTSIDE);
    }

    private static void sound() {
        of(8);
        BellNames x = on("b09;p000;k000;h002;k993;h993");
        int[][] wants = {{0, 1, 2, 3}, {0, 0, 1, 2}, {0, 0, 1, 1}, {8, 9, 10, 11}, {4, 5, 5, 6}};
        int[] own = {0, 0, 1, 11, 6};
        for (int b = 0; b < 5; b++) {
            for (int mood = 0; mood < 4; mood++) due(x.sound(b, mood), wants[b][mood]);
            due(x.sound(b, NONE), own[b]);
        }
        x.blow(2);
        due(x.sound(0, 3), 5);
        due(x.sound(1, 3), 4);
        due(x.sound(2, 3), 2);
        due(x.sound(0, 4), OUTSIDE);
        due(x.sound(0, -1), OUTSIDE);
        due(x.sound(0, -8), OUTSIDE);
        due(x.sound(5, 4), UNKNOWN);
        due(x.sound(-1, 0), UNKNOWN);
    }

    private static void heardTakenMeant() {
        BellNames x = on("b00;p440;p241;p640;h982");
        of(9);
        due(x.heard(4), 1 | 2 | 4);
        due(x.heard(8), 8);
        due(x.heard(0), 0);
        x.go(1, 5);
        due(x.heard(4), 1 | 4);
        due(x.heard(5), 2);
        due(x.heard(10), OUTSIDE);
        due(x.heard(-1), OUTSIDE);
        due(new BellNames().heard(10), OUTSIDE);
        due(new BellNames().heard(9), STATE);
        BellNames far = on("b09;p000;p090");
        due(far.heard(0), 3);
        due(far.heard(9), 3);
        of(10);
        due(x.taken(4, 5), 0);
        due(x.taken(4, 6), 2);
        due(x.taken(4, 19), 2);
        due(x.taken(4, 0), 0);
        due(x.taken(0, 4), NONE);
        due(x.taken(8, 0), 3);
        x.cheer(0, 3);
        due(x.taken(4, 19), 0);
        due(x.taken(10, 0), OUTSIDE);
        due(x.taken(0, 20), OUTSIDE);
        due(x.taken(-1, 0), OUTSIDE);
        due(x.taken(0, -1), OUTSIDE);
        due(new BellNames().taken(0, 20), OUTSIDE);
        due(new BellNames().taken(0, 19), STATE);
        of(11);
        due(x.meant(4, 6), 1 | 4);
        due(x.meant(4, 4), 1);
        due(x.meant(4, 9), 4);
        due(x.meant(4, 10), 0);
        due(x.meant(8, 6), 8);
        due(x.meant(0, 6), 0);
        due(x.meant(4, 19), 0);
        due(x.meant(10, 0), OUTSIDE);
        due(x.meant(0, 20), OUTSIDE);
        due(x.meant(0, -1), OUTSIDE);
        due(new BellNames().meant(0, -1), OUTSIDE);
        due(new BellNames().meant(0, 0), STATE);
    }

    private static void family() {
        of(12);
        // SOUNDS 8, 1, 4, 6, 3: a chain 8 - 6 - 4 that is found out of order, and 1 - 3.
        BellNames x = on("b00;p800;p100;p400;p600;p300");
        int[] wants = {13, 18, 13, 13, 18};
        for (int b = 0; b < 5; b++) due(x.family(b), wants[b]);
        x.cheer(4, 3);
        due(x.family(0), 29);
        due(x.family(4), 29);
        due(x.family(1), 2);
        x.cheer(1, 1);
        due(x.family(1), 31);
        due(x.family(5), UNKNOWN);
        due(x.family(-1), UNKNOWN);
        BellNames same = on("b00;p300;p300");
        due(same.family(0), 1);
        BellNames longest = on("b00;p000;p800;p200;p600;p400");
        due(longest.family(0), 31);
        due(longest.family(1), 31);
    }

    private static void goings() {
        of(13);
        BellNames x = on("b01;p000;p050;p090");
        x.sheet(1, 2, 0);
        goingsAll(x, 0, 1, NONE, 0, 0, 0, 5, 9, NONE, NONE);
        write(x, 1, 2, 0, 0, 3, 1, 1, 0, 9);
        goingsAll(x, 3, 1, NONE, 13, 8, 9, 1, 9, NONE, NONE);
        due(x.goings(1, 2, 2, 2, 2), 13);
        due(x.ofBell(0, 2), 0);
        write(x, 1, 2, 0, 0, 3, 0, 3, 1, 5);
        goingsAll(x, 3, -101, 1, -101, -101, -101, -101, -101, -101, -101);
        goingsAll(x, 1, 0, NONE, 3, 4, 3, 5, 9, NONE, NONE);
        due(x.fault(), 0);
        int[] most = new int[40];
        for (int p = 0; p < 20; p++) most[2 * p + 1] = p % 2 == 0 ? 9 : 0;
        write(x, 1, 2, 0, most);
        goingsAll(x, 20, 1, NONE, 180, 0, 0, 5, 9, NONE, NONE);
    }

    private static void goingsRefused() {
        of(13);
        BellNames x = on(FIVE);
        due(x.goings(-1, 3, 0, 21, 4), UNKNOWN);
        due(x.goings(4, 0, 0, 0, 0), UNKNOWN);
        int[] badWhats = {-1, 4, 9, 15, Integer.MIN_VALUE};
        for (int what : badWhats) due(x.goings(1, 0, 0, 0, what), OUTSIDE);
        due(x.goings(1, 3, 0, 0, 0), OUTSIDE);
        due(x.goings(1, -1, 0, 0, 0), OUTSIDE);
        due(x.goings(1, 0, 0, -1, 0), OUTSIDE);
        due(x.goings(1, 0, 0, 21, 0), OUTSIDE);
        due(x.goings(1, 0, 0, 1, 0), NULL);
        due(x.fault(), 1);
        write(x, 1, 2, 0, 0, 10, 9, 0);
        due(x.goings(1, 1, 99, 1, 0), CAST);
        due(x.fault(), 2);
        due(x.goings(1, 2, 3, 1, 0), INDEX);
        due(x.fault(), 3);
        due(x.goings(1, 2, -1, 0, 0), INDEX);
        due(x.goings(1, 2, 5, 0, 0), INDEX);
        due(x.goings(1, 2, 4, 0, 2), 0);
        due(x.goings(1, 2, Integer.MAX_VALUE, 20, 0), INDEX);
        due(x.goings(1, 2, 0, 2, 0), OUTSIDE);
        due(x.fault(), 0);
        due(x.goings(1, 2, 2, 1, 0), UNKNOWN);
        write(x, 1, 2, 0, -1, 10);
        due(x.goings(1, 2, 0, 1, 0), UNKNOWN);
        write(x, 1, 2, 0, 0, -1, 5, 0);
        due(x.goings(1, 2, 0, 2, 0), OUTSIDE);
        write(x, 1, 2, 0, 0, 1, 5, 0);
        due(x.goings(1, 2, 0, 1, 1), 0);
        due(x.goings(1, 2, 0, 2, 1), UNKNOWN);
        BellNames none = new BellNames();
        write(none, 1, 0, 0, 9, 99);
        due(none.goings(1, 0, 0, 1, 0), STATE);
        due(none.goings(1, 0, 0, 2, 0), INDEX);
        due(none.goings(1, 0, 0, 0, 10), STATE);
    }

    private static void postAndCall() {
        BellNames x = on("b01;p020;p050;p090");
        of(14);
        due(x.post(0), 0);
        due(x.post(1), 1);
        due(x.post(2), 4);
        due(x.post(3), NONE);
        due(x.post(8), OUTSIDE);
        due(x.post(-1), OUTSIDE);
        due(new BellNames().post(-1), STATE);
        x.go(1, 4);
        due(x.post(3), 3);
        due(x.post(7), NONE);
        of(15);
        x.go(1, 5);
        due(x.call(0, 0), 0);
        due(x.call(0, 1), 0);
        due(x.call(3, 0), 3);
        due(x.call(3, 1), 1);
        due(x.call(7, 0), 4);
        due(x.call(7, 1), 5);
        due(x.call(6, 0), 6);
        due(x.call(6, 1), 2);
        due(x.call(8, 0), OUTSIDE);
        due(x.call(-1, 0), OUTSIDE);
        due(x.call(0, 2), OUTSIDE);
        due(x.call(0, -1), OUTSIDE);
        due(new BellNames().call(9, 9), STATE);
    }

    private static void cast() {
        of(16);
        BellNames x = on("b00;p500;p300;h900");
        // Others of BELL 0 sound 3 .. 6 and 4 .. 6; of BELL 1 5 .. 8 and 4 .. 6; of BELL 2 3 .. 8.
        due(x.cast(0), 7);
        due(x.cast(1), 0);
        due(x.cast(2), 0);
        x.recast(1, 4);
        due(x.cast(0), 0);
        due(x.cast(3), UNKNOWN);
        due(x.cast(-1), UNKNOWN);
        due(on("b05;p900").cast(0), 0);
        due(on("b00;p000;p100;h900").cast(2), NONE);
        due(on("b00;p000;h900").cast(1), 8);
        due(on("b20;k900;p000;p700").cast(0), NONE);
        due(on("b20;k900;p000;p800").cast(0), 5);
    }

    private static void choir() {
        of(17);
        BellNames x = on("b00;p303;p300");
        // SOUNDS 6 and 3: one change is enough, MOODS 2, 0 (SOUNDS 5 and 3) or 3, 1 (6 and 4), and 2, 0 is the first.
        due(x.choir(-1), 1);
        due(x.choir(0), 2);
        due(x.choir(1), 0);
        due(x.choir(2), NONE);
        due(x.choir(4), NONE);
        due(x.choir(5), OUTSIDE);
        due(x.choir(-2), OUTSIDE);
        due(x.ofBell(0, 3), 3);
        BellNames apart = on("b00;p000;p900");
        due(apart.choir(-1), NONE);
        due(apart.choir(0), NONE);
        due(on("b00;p002").choir(-1), 0);
        due(on("b00;p002").choir(0), 2);
        BellNames already = on("b00;p303;p301");
        due(already.choir(-1), 0);
        due(already.choir(0), 3);
        due(already.choir(1), 1);
        BellNames two = on("b00;p003;p300");
        due(two.choir(-1), 1);
        due(two.choir(0), 1);
        due(two.choir(1), 0);
        due(new BellNames().choir(9), STATE);
    }

    private static void readings() {
        BellNames x = on(FIVE);
        of(18);
        for (int r = 0; r < 8; r++) {
            due(x.reading(r % 5, r % 4, r), r);
            due(x.many(3), r + 1);
        }
        due(x.reading(0, 0, 0), FULL);
        due(x.reading(0, 4, 0), OUTSIDE);
        due(x.reading(0, -1, 0), OUTSIDE);
        due(x.reading(0, 0, 20), OUTSIDE);
        due(x.reading(0, 0, -1), OUTSIDE);
        due(x.reading(5, 4, 20), UNKNOWN);
        due(x.many(3), 8);
        of(19);
        due(x.back(9), OUTSIDE);
        due(x.back(-1), OUTSIDE);
        due(x.back(0), 8);
        due(x.back(3), 5);
        due(x.reading(0, 0, 19), 5);
        due(x.back(6), 0);
        due(x.back(1), OUTSIDE);
        due(new BellNames().back(0), 0);
        due(new BellNames().back(1), OUTSIDE);
    }

    private static void notesKindsWinds() {
        BellNames x = on("b10;p500;k500;h500");
        of(20);
        due(x.notes(0), 1023);
        x.reading(0, 2, 8);
        due(x.notes(0), 1 << 5);
        due(x.notes(1), 1023);
        x.reading(2, 0, 3);
        due(x.notes(2), 1 << 5 | 1 << 6);
        x.reading(2, 1, 4);
        due(x.notes(2), 1 << 6);
        due(x.notes(0), 0);
        due(x.notes(3), UNKNOWN);
        due(x.notes(-1), UNKNOWN);
        BellNames low = on("b00;k000");
        low.reading(0, 0, 0);
        due(low.notes(0), 3);
        of(21);
        due(x.kinds(0), 0);
        x.back(1);
        due(x.kinds(0), 1);
        due(x.kinds(1), 7);
        due(x.kinds(2), 4);
        due(low.kinds(0), 7);
        low.reading(0, 1, 0);
        due(low.kinds(0), 2 | 4);
        due(x.kinds(3), UNKNOWN);
        of(22);
        due(x.winds(), 2);
        x.back(2);
        due(x.winds(), 7);
        x.reading(2, 0, 3);
        due(x.winds(), 2 | 4);
        x.reading(1, 0, 7);
        due(x.winds(), 0);
        due(x.many(1), 1);
        due(new BellNames().winds(), STATE);
    }

    private static void odds() {
        of(23);
        BellNames x = on("b00;p000;h000;k000;p550");
        // At SPOT 0: PLAIN 0 1 2 3, STUFFED 0 0 1 1, CRACKED 0 0 1 2.
        long[][] wants = {{13, 16}, {23, 32}, {7, 16}, {1, 4}, {0, 1}};
        for (int v = 0; v < 5; v++) {
            due(x.odds(0, v, 0), wants[v][0]);
            due(x.odds(0, v, 1), wants[v][1]);
        }
        due(x.odds(9, 0, 0), 0);
        due(x.odds(9, 0, 1), 1);
        x.cheer(0, 3);
        due(x.odds(0, 0, 0), 13);
        due(on("b00;h000").odds(0, 0, 0), 1);
        due(on("b00;h000").odds(0, 0, 1), 2);
        due(x.odds(10, 0, 0), LOST);
        due(x.odds(-1, 0, 0), LOST);
        due(x.odds(0, 20, 0), LOST);
        due(x.odds(0, -1, 0), LOST);
        due(x.odds(0, 0, 2), LOST);
        due(x.odds(0, 0, -1), LOST);
        due(new BellNames().odds(0, 0, 0), LOST);
    }

    private static void sheets() {
        BellNames x = new BellNames();
        of(24);
        due(x.sheet(0, 0, 60), 1);
        due(x.put(0, 59, 7), 1);
        due(x.sheet(0, 0, 61), OUTSIDE);
        due(x.sheet(0, 3, -1), OUTSIDE);
        due(x.sheet(0, -1, 0), OUTSIDE);
        due(x.fault(), 0);
        due(x.sheet(0, 0, -1), SIZE);
        due(x.fault(), 4);
        due(x.sheet(-1, 0, -1), UNKNOWN);
        due(x.fault(), 0);
        due(x.sheet(4, 9, 99), UNKNOWN);
        due(x.cell(0, 59, 0), 7);
        due(x.sheet(0, 2, 60), 1);
        due(x.cell(0, 59, 2), 0);
        due(x.sheet(3, 1, 0), 1);
        due(x.put(3, 0, 0), INDEX);
        of(25);
        due(x.put(0, 5, 5), 1);
        due(x.lose(0), 1);
        due(x.lose(0), 0);
        due(x.put(0, 0, 0), NULL);
        due(x.lose(3), 1);
        due(x.lose(1), 0);
        due(x.lose(4), UNKNOWN);
        due(x.lose(-1), UNKNOWN);
        due(x.fault(), 1);
        due(x.sheet(0, 2, 6), 1);
        due(x.cell(0, 5, 2), 0);
    }

    private static void cells() {
        BellNames x = new BellNames();
        of(26);
        long[][] wants = {{-56, -56, 127, 0, -1}, {200, -56, 32767, -32768, -1},
            {200, 65480, Integer.MAX_VALUE, Integer.MIN_VALUE + 32768, -1}};
        for (int lane = 0; lane < 3; lane++) {
            int top = lane == 0 ? 127 : lane == 1 ? 32767 : Integer.MAX_VALUE;
            write(x, lane, lane, 0, 200, 65480, top, Integer.MIN_VALUE + 32768, -1);
            for (int c = 0; c < 5; c++) due(x.cell(lane, c, lane), wants[lane][c]);
        }
        due(x.put(0, 5, 0), INDEX);
        due(x.fault(), 3);
        due(x.put(0, -1, 0), INDEX);
        due(x.put(3, -1, 0), NULL);
        due(x.fault(), 1);
        due(x.put(4, -1, 0), UNKNOWN);
        due(x.fault(), 0);
        due(x.put(0, 4, 9), 1);
        of(27);
        due(x.cell(0, 4, 0), 9);
        due(x.cell(0, 9, 1), LOST);
        due(x.fault(), 2);
        due(x.cell(0, 5, 0), LOST);
        due(x.fault(), 3);
        due(x.cell(0, -1, 0), LOST);
        due(x.fault(), 3);
        due(x.cell(3, -1, 2), LOST);
        due(x.fault(), 1);
        due(x.cell(3, -1, 3), LOST);
        due(x.fault(), 0);
        due(x.put(0, 9, 9), INDEX);
        due(x.cell(-1, 0, 0), LOST);
        due(x.fault(), 0);
    }

    private static void copies() {
        of(28);
        BellNames x = new BellNames();
        write(x, 0, 1, 0, 1, 2, 3, 4, 5);
        due(x.copy(0, 0, 0, 1, 4), 4);
        int[] later = {1, 1, 2, 3, 4};
        for (int c = 0; c < 5; c++) due(x.cell(0, c, 1), later[c]);
        due(x.copy(0, 2, 0, 0, 3), 3);
        int[] sooner = {2, 3, 4, 3, 4};
        for (int c = 0; c < 5; c++) due(x.cell(0, c, 1), sooner[c]);
        due(x.copy(0, 0, 1, 0, 1), NULL);
        due(x.copy(1, 0, 0, 0, -1), NULL);
        due(x.fault(), 1);
        x.sheet(1, 2, 3);
        due(x.copy(0, 0, 1, 0, -1), CAST);
        due(x.fault(), 2);
        x.sheet(1, 1, 3);
        due(x.copy(0, 0, 1, 0, 4), INDEX);
        due(x.fault(), 3);
        due(x.copy(0, 3, 1, 0, 3), INDEX);
        due(x.copy(0, 0, 1, 0, -1), INDEX);
        due(x.copy(0, -1, 1, 0, 1), INDEX);
        due(x.copy(0, 0, 1, -1, 1), INDEX);
        due(x.copy(0, 6, 1, 0, 0), INDEX);
        due(x.copy(0, 0, 1, 4, 0), INDEX);
        due(x.copy(0, 1, 1, 1, Integer.MAX_VALUE), INDEX);
        due(x.cell(1, 0, 1), 0);
        due(x.copy(0, 5, 1, 3, 0), 0);
        due(x.fault(), 0);
        due(x.copy(0, 1, 1, 0, 3), 3);
        due(x.cell(1, 1, 1), 4);
        due(x.copy(4, -1, 0, 0, 0), UNKNOWN);
        due(x.copy(0, 0, -1, 0, 0), UNKNOWN);
    }

    private static void tellings() {
        BellNames x = on("b00;p300;k500;h800");
        of(29);
        due(x.tell(0), 3);
        due(x.trace(), 1);
        due(x.tell(1), 105);
        due(x.trace(), (1 * 31 + 2) * 31 + 1);
        int before = x.trace();
        due(x.tell(2), 116);
        int behind = (((before * 31 + 3) * 31 + 2) * 31 + 1) * 31 + 1;
        due(x.trace(), behind);
        due(x.tell(3), UNKNOWN);
        due(x.tell(-1), UNKNOWN);
        due(x.trace(), behind);
        of(30);
        BellNames y = on("b00;p300;k500;h800");
        due(y.echo(0), 0);
        due(y.trace(), 4);
        due(y.echo(1), 1);
        due(y.trace(), 4 * 31 + 4);
        due(y.echo(2), 20);
        due(y.trace(), (4 * 31 + 4) * 31 + 5);
        due(y.echo(3), UNKNOWN);
        of(32);
        int own = y.trace();
        for (int c = 0; c < 40; c++) {
            y.echo(0);
            own = own * 31 + 4;
        }
        due(y.trace(), own);
    }

    private static void as() {
        of(31);
        BellNames x = on("b00;p300;k500;h800");
        int[][] wants = {{1, CAST, CAST}, {1, 1, CAST}, {1, 1, 1}};
        for (int b = 0; b < 3; b++) {
            for (int kind = 0; kind < 3; kind++) {
                due(x.as(b, kind), wants[b][kind]);
                due(x.fault(), wants[b][kind] == 1 ? 0 : 2);
            }
        }
        due(x.as(0, 3), OUTSIDE);
        due(x.as(0, -1), OUTSIDE);
        due(x.as(3, 3), UNKNOWN);
    }

    private static void fault() {
        of(33);
        BellNames x = on(FIVE);
        due(x.as(0, 1), CAST);
        x.heard(10);
        x.lose(9);
        x.many(0);
        x.back(99);
        x.tell(0);
        due(x.fault(), 2);
        due(x.fault(), 2);
        due(x.as(9, 0), UNKNOWN);
        due(x.fault(), 0);
        due(x.sheet(0, 0, -1), SIZE);
        due(x.alp(9, 0, 0, 0), UNKNOWN);
        due(x.fault(), 0);
        due(x.sheet(0, 0, -1), SIZE);
        due(x.goings(9, 0, 0, 0, 0), UNKNOWN);
        due(x.fault(), 0);
        due(x.sheet(0, 0, -1), SIZE);
        due(x.copy(9, 0, 0, 0, 0), UNKNOWN);
        due(x.fault(), 0);
        due(x.sheet(0, 0, -1), SIZE);
        due(x.put(0, 0, 98), 1);
        due(x.fault(), 0);
    }

    private static void many() {
        of(34);
        BellNames x = on("b27;p300;k500");
        x.reading(0, 0, 0);
        int[] wants = {2, 2, 7, 1};
        for (int what = 0; what < 4; what++) due(x.many(what), wants[what]);
        due(x.many(4), OUTSIDE);
        due(x.many(-1), OUTSIDE);
        due(new BellNames().many(4), OUTSIDE);
    }

    private static void constants() {
        of(0);
        due(BellNames.UNKNOWN, UNKNOWN);
        due(BellNames.OUTSIDE, OUTSIDE);
        due(BellNames.STATE, STATE);
        due(BellNames.FULL, FULL);
        due(BellNames.NONE, NONE);
        due(BellNames.LOST, LOST);
    }
}
