/** What promises 34 to 40 say of bounds, of no REPORTS and of 6, of the empty TUBE, of numbers that wrap. */
public final class EdgeLotTest {
    private static final int BAD = -1, FULL = -2, NONE = -3;
    private static final int[] ENDS = {Integer.MIN_VALUE, Integer.MIN_VALUE + 1, -65537, -65536, -2, -1, 0, 1, 65535, 65536,
        Integer.MAX_VALUE - 1, Integer.MAX_VALUE};

    // ---- 34, 35: report, forget

    static void p34PlaceFrom0To3() {
        MendedTube x = new MendedTube();
        for (int p = 0; p <= 3; p++) Cases.due("no LENS is there", p, x.report(p, 1));
        Cases.each(BAD, Cases.outside(0, 3), p -> x.report(p, 1));
        Cases.due(4, x.many(3));
    }

    static void p34WasIs0Or1() {
        MendedTube x = new MendedTube();
        for (int was = 0; was <= 1; was++) Cases.due(was, x.report(0, was));
        Cases.each(BAD, Cases.outside(0, 1), was -> x.report(0, was));
        Cases.due(2, x.many(3));
    }

    static void p34TheSeventhIsFull() {
        MendedTube x = new MendedTube();
        for (int r = 0; r < 6; r++) Cases.due(r, x.report(3, 1));
        Cases.due(FULL, x.report(3, 1));
        Cases.due(6, x.many(3));
    }

    static void p34BadAheadOfFull() {
        MendedTube x = new MendedTube();
        for (int r = 0; r < 6; r++) x.report(3, 1);
        Cases.due(BAD, x.report(4, 1));
        Cases.due(BAD, x.report(-1, 1));
        Cases.due(BAD, x.report(0, 2));
        Cases.due(BAD, x.report(0, -1));
    }

    static void p34TheSeventhCountsNothing() {
        MendedTube x = Cases.fitted(Cases.pushing(0));
        for (int r = 0; r < 6; r++) x.report(0, 0);
        int fit = x.span(0);
        x.report(0, 1);
        Cases.due("by the six alone", 19, fit);
        Cases.due("by the six alone", 19, x.span(0));
    }

    static void p35NoneToSix() {
        MendedTube x = new MendedTube();
        for (int were = 0; were <= 6; were++) {
            for (int r = 0; r < were; r++) Cases.due("numbered from 0 again", r, x.report(0, 1));
            Cases.due(were, x.forget());
            Cases.due(0, x.many(3));
        }
        Cases.due(0, x.forget());
        Cases.due("all FIT again", 19, x.span(0));
    }

    // ---- 36, 37: span, liar. STRENGTH s alone, GAP 1, EYE 0: WRONG is the size of 1 - 2s; by EYE 1 that of s.

    private static MendedTube one() {
        MendedTube x = new MendedTube();
        x.lens(3, 9, 9, 1);
        x.fit(0, 0);
        return x;
    }

    static void p36WhatFrom0To2() {
        MendedTube x = new MendedTube();
        int[] due = {19, 1, 19};
        for (int what = 0; what <= 2; what++) Cases.due("no REPORTS", due[what], x.span(what));
        Cases.each(BAD, Cases.outside(0, 2), x::span);
    }

    static void p36NoneFits() {
        MendedTube x = one();
        x.report(0, 1);
        Cases.due("1 - 2s is never 0", 0, x.span(0));
        Cases.due(NONE, x.span(1));
        Cases.due(NONE, x.span(2));
        Cases.each(BAD, Cases.outside(0, 2), x::span);
    }

    static void p36OneFits() {
        MendedTube x = one();
        x.let(2, 1);
        x.report(0, 1);
        int[] due = {1, 10, 10};
        for (int what = 0; what <= 2; what++) Cases.due("BEND 0", due[what], x.span(what));
    }

    static void p36TheEnds() {
        MendedTube x = one();
        x.let(2, 1);
        x.let(3, 8);
        x.report(0, 0);
        int[] due = {2, 1, 19};
        for (int what = 0; what <= 2; what++) Cases.due("BEND -9 and 9", due[what], x.span(what));
        x.let(3, 9);
        Cases.due("all are MENDED", 0, x.span(0));
        x.forget();
        x.report(0, 1);
        int[] all = {19, 1, 19};
        for (int what = 0; what <= 2; what++) Cases.due("all are MENDED", all[what], x.span(what));
        x.let(3, 8);
        int[] most = {17, 2, 18};
        for (int what = 0; what <= 2; what++) Cases.due("BEND -8 to 8", most[what], x.span(what));
    }

    static void p36AsStrengthWithoutTilt() {
        MendedTube x = one();
        x.let(0, 9);
        x.let(2, 1);
        Cases.tell(x, "lens flat;");
        x.let(3, 2);
        x.report(0, 1);
        int[] due = {5, 8, 12};
        for (int what = 0; what <= 2; what++) Cases.due("neither KIND, HEAT nor RULES count", due[what], x.span(what));
    }

    static void p36AllElseAsItIsNow() {
        MendedTube x = Cases.pushing(0, 1);
        x.fit(0, 0);
        x.let(3, 1);
        x.report(0, 1);
        Cases.due("BEND 0 and 1", 2, x.span(0));
        x.let(3, 3);
        Cases.due("BEND -1 to 2", 4, x.span(0));
        x.fit(1, 0);
        Cases.due("1 - 3s, pushed by 2: 3 is WRONG of BEND 0", 1, x.span(0));
        x.let(1, 2);
        Cases.due("GAP 2: 1 - 6s, pushed by 4", 0, x.span(0));
    }

    static void p36APlaceThatHasNoLensNow() {
        for (int p = 0; p < 4; p++) {
            for (int was = 0; was <= 1; was++) {
                MendedTube x = Cases.pushing(0, 0, 0, 0);
                x.let(3, 999);
                for (int l = 0; l < p; l++) x.fit(l, 0);
                x.report(p, was);
                Cases.due("PLACE " + p, 0, x.span(0));
                Cases.due(NONE, x.span(1));
                x.let(3, was == 1 ? 999 : 0);
                x.fit(p, 0);
                Cases.due("now it has one: some FIT", 1, x.span(0) > 0 ? 1 : 0);
                x.take(0);
                Cases.due("not any more", 0, x.span(0));
            }
        }
    }

    static void p37SomeFit() {
        MendedTube x = one();
        Cases.due("no REPORTS", NONE, x.liar());
        x.let(3, 1);
        x.report(0, 1);
        Cases.due(NONE, x.liar());
        Cases.due(NONE, new MendedTube().liar());
    }

    static void p37TheOneReport() {
        MendedTube x = new MendedTube();
        x.report(3, 0);
        Cases.due("but for it all FIT", 0, x.liar());
    }

    static void p37TheLeastOfSeveral() {
        MendedTube x = one();
        x.let(3, 1);
        x.report(0, 1);
        x.report(0, 0);
        Cases.due(0, x.liar());
    }

    static void p37TheLastOfSix() {
        MendedTube x = one();
        x.let(3, 1);
        for (int r = 0; r < 5; r++) x.report(0, 0);
        x.report(0, 1);
        Cases.due(5, x.liar());
    }

    static void p37NoSuchReport() {
        MendedTube x = one();
        x.let(3, 1);
        for (int r = 0; r < 4; r++) x.report(0, r % 2);
        Cases.due("two against two", NONE, x.liar());
        x = new MendedTube();
        for (int r = 0; r < 6; r++) x.report(r % 4, 1);
        Cases.due("six of PLACES without a LENS", NONE, x.liar());
    }

    // ---- 38 to 40: seed, draw, often

    /** By longs, so that nothing wraps till it is cut to an int's bits. */
    private static int next(int z) {
        long bits = ((z & 0xffffffffL) * 1103515245L + 12345L) & 0xffffffffL;
        return bits >= 0x80000000L ? (int) (bits - 0x100000000L) : (int) bits;
    }

    private static int placeOf(int z, int places) {
        return (int) (((z & 0xffffffffL) / 65536) % places);
    }

    static void p38EachInt() {
        MendedTube x = new MendedTube();
        int was = 1;
        for (int v : ENDS) {
            Cases.due(was, x.seed(v));
            was = v;
        }
    }

    static void p39ZWraps() {
        for (int places = 1; places <= 4; places++) {
            MendedTube x = new MendedTube();
            for (int l = 0; l < places; l++) x.lens(1, 0, 0, 1);
            Cases.fitted(x);
            for (int z : ENDS) {
                x.seed(z);
                int due = next(z);
                Cases.due("of " + places + " by z " + z, placeOf(due, places), x.draw());
                Cases.due("z behind " + z, due, x.seed(0));
            }
        }
    }

    static void p39AQuarterAndBehind3Is0() {
        MendedTube x = Cases.pushing(9);
        x.fit(0, 0);
        for (int i = 1; i <= 9; i++) {
            Cases.due(0, x.draw());
            Cases.due(i % 4, x.place(0, 1));
        }
    }

    static void p39TheOthersAreNotTurned() {
        MendedTube x = Cases.fitted(Cases.pushing(1, 1, 1, 1));
        int p = x.draw();
        for (int q = 0; q < 4; q++) Cases.due(q == p ? 1 : 0, x.place(q, 1));
    }

    static void p39AnEmptyTube() {
        MendedTube x = Cases.pushing(1);
        for (int z : ENDS) {
            x.seed(z);
            Cases.due(NONE, x.draw());
            Cases.due("z stays", z, x.seed(0));
        }
    }

    /** How often the one LENS that pushes has TURN 1 or 3, by longs. */
    private static int oftenDue(int z, int places, int n) {
        int turn = 0;
        int count = 0;
        int now = z;
        for (int i = 0; i < n; i++) {
            now = next(now);
            if (placeOf(now, places) == 0) turn++;
            if (turn % 2 == 1) count++;
        }
        return count;
    }

    static void p40NFrom1To60() {
        MendedTube x = Cases.fitted(Cases.pushing(9, 0, 0));
        x.let(3, 1);
        for (int n = 1; n <= 60; n++) Cases.due("of " + n, oftenDue(1, 3, n), x.often(n));
        Cases.each(BAD, Cases.outside(1, 60), x::often);
    }

    static void p40ZWraps() {
        MendedTube x = Cases.fitted(Cases.pushing(9, 0, 0));
        x.let(3, 1);
        for (int z : ENDS) {
            x.seed(z);
            Cases.due("from z " + z, oftenDue(z, 3, 60), x.often(60));
            Cases.due("z is as it was", z, x.seed(z));
        }
    }

    static void p40AllIsAsItWas() {
        MendedTube x = Cases.pushing(1, 2, 3, 4);
        for (int l = 0; l < 4; l++) x.fit(l, l);
        int wrong = x.wrong();
        x.often(60);
        for (int p = 0; p < 4; p++) {
            Cases.due(p, x.place(p, 0));
            Cases.due(p, x.place(p, 1));
        }
        Cases.due(1, x.seed(1));
        Cases.due(wrong, x.wrong());
    }

    static void p40AnEmptyTube() {
        MendedTube x = Cases.pushing(1);
        for (int n : new int[] {1, 60}) Cases.due(0, x.often(n));
        Cases.each(BAD, Cases.outside(1, 60), x::often);
        Cases.due(1, x.seed(1));
    }

    static void p40AlwaysAndNever() {
        MendedTube x = Cases.fitted(Cases.pushing(0));
        Cases.due("never", 0, x.often(60));
        x.let(3, 1);
        Cases.due("always", 60, x.often(60));
        Cases.due("always", 1, x.often(1));
    }

    public static void main(String[] args) throws Exception {
        Cases.run(EdgeLotTest.class, 34, 40);
    }
}
