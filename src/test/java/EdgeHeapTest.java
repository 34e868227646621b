/**
 * What promises 25 to 33 say of bounds, of too few LENSES, of the empty and the full TUBE, of refusals. Of two that only
 * push, by a and b, SEEN of 0 is 3a + 2b; of three 4a + 3b + 2c; BLUR is 1.
 */
public final class EdgeHeapTest {
    private static final int BAD = -1, NONE = -3;
    private static final int[] NO_N = Cases.outside(1, 3);
    private static final int[] NINE = {9, 9, 9, 9, 9, 9, 9, 9, 9};

    // ---- 25 to 27: least, pick, good

    static void p25NFrom1To3() {
        MendedTube x = Cases.pushing(NINE);
        for (int n = 1; n <= 3; n++) Cases.due(1, x.least(n));
        Cases.each(BAD, NO_N, x::least);
    }

    static void p25NotSoManyLenses() {
        MendedTube x = new MendedTube();
        for (int lenses = 0; lenses <= 3; lenses++) {
            for (int n = 1; n <= 3; n++) Cases.due(lenses + " LENSES, " + n, lenses < n ? NONE : 1, x.least(n));
            x.lens(4, 0, 1, 1);
        }
    }

    static void p25BadAheadOfNone() {
        Cases.each(BAD, NO_N, n -> new MendedTube().least(n));
        Cases.each(BAD, NO_N, n -> Cases.pushing(1, 2).least(n));
    }

    static void p25WhateverTheTubeIsNow() {
        MendedTube x = Cases.fitted(Cases.pushing(9, 9, 9, 9));
        x.let(3, 999);
        for (int n = 1; n <= 3; n++) Cases.due(1, x.least(n));
        Cases.due("THE TUBE stays", 126 + 1, x.wrong());
        Cases.due(4, x.many(2));
    }

    static void p25OfNineTheLastOneAlone() {
        MendedTube x = Cases.bending(9, 8, 7, 6, 5, 4, 3, 2, 0);
        x.let(2, 1);
        Cases.due("by EYE 1 WRONG of one is its STRENGTH", 0, x.least(1));
    }

    static void p26NFrom1To3() {
        MendedTube x = Cases.pushing(NINE);
        for (int n = 1; n <= 3; n++) Cases.due(1, x.pick(n, 0));
        Cases.each(BAD, NO_N, n -> x.pick(n, 0));
    }

    static void p26IFrom0ToNLess1() {
        MendedTube x = Cases.pushing(NINE);
        for (int n = 1; n <= 3; n++) {
            int tubes = n;
            for (int i = 0; i < n; i++) Cases.due(10 * i + 1, x.pick(n, i));
            Cases.each(BAD, Cases.outside(0, n - 1), i -> x.pick(tubes, i));
        }
    }

    static void p26NotSoManyLenses() {
        MendedTube x = new MendedTube();
        for (int lenses = 0; lenses <= 3; lenses++) {
            for (int n = 1; n <= 3; n++) {
                for (int i = 0; i < n; i++) Cases.due(lenses + " LENSES, " + n, lenses < n ? NONE : 10 * i + 1, x.pick(n, i));
            }
            x.lens(4, 0, 1, 1);
        }
    }

    static void p26BadAheadOfNone() {
        MendedTube x = new MendedTube();
        Cases.each(BAD, NO_N, n -> x.pick(n, 0));
        for (int n = 1; n <= 3; n++) {
            Cases.due(BAD, x.pick(n, n));
            Cases.due(BAD, x.pick(n, -1));
        }
    }

    static void p26TheLeastLensThenTheLeastTurn() {
        Cases.due("LENS 0 by TURN 1 ahead of LENS 1 by TURN 0", 1, Cases.pushing(2, 0).pick(1, 0));
        MendedTube x = Cases.pushing(0, 9, 0);
        Cases.due(0, x.pick(2, 0));
        Cases.due("TURN 0 at PLACE 0 first, then LENS 1", 11, x.pick(2, 1));
        x = Cases.pushing(2, 3, 9);
        Cases.due("6 - 6 by TURN 0 ahead of none by TURN 1", 0, x.pick(2, 0));
        Cases.due(12, x.pick(2, 1));
        x = Cases.pushing(1, 2, 3, 4, 5, 6, 7, 8, 9);
        int[] due = {0, 10, 42};
        for (int i = 0; i < 3; i++) Cases.due("4 + 3 * 2 - 2 * 5", due[i], x.pick(3, i));
    }

    static void p26OfNineTheLastOneAlone() {
        MendedTube x = Cases.bending(9, 8, 7, 6, 5, 4, 3, 2, 0);
        x.let(2, 1);
        Cases.due(80, x.pick(1, 0));
    }

    static void p27NFrom1To3() {
        MendedTube x = Cases.pushing(NINE);
        x.let(3, 999);
        int[] due = {36, 9 * 8 * 16, 9 * 8 * 7 * 64};
        for (int n = 1; n <= 3; n++) Cases.due(due[n - 1], x.good(n));
        Cases.each(BAD, NO_N, x::good);
    }

    static void p27NotSoManyLenses() {
        int[][] due = {{0, 0, 0}, {4, 0, 0}, {8, 32, 0}, {12, 96, 384}};
        MendedTube x = new MendedTube();
        x.let(3, 999);
        for (int lenses = 0; lenses <= 3; lenses++) {
            for (int n = 1; n <= 3; n++) Cases.due(lenses + " LENSES, " + n, due[lenses][n - 1], x.good(n));
            x.lens(4, 0, 1, 1);
        }
        Cases.each(BAD, NO_N, n -> new MendedTube().good(n));
    }

    static void p27WrongIsLimit() {
        MendedTube x = Cases.pushing(1);
        int[] due = {0, 2, 2, 4};
        for (int limit = 0; limit <= 3; limit++) {
            x.let(3, limit);
            Cases.due("WRONG 1 and 3 by LIMIT " + limit, due[limit], x.good(1));
        }
    }

    // ---- 28, 29: pairs, mate

    static void p28OfNoneToNineLenses() {
        MendedTube x = new MendedTube();
        x.let(3, 999);
        for (int lenses = 0; lenses <= 9; lenses++) {
            Cases.due(lenses + " LENSES", lenses / 2, x.pairs());
            x.lens(4, 0, 1, 1);
        }
    }

    static void p28NoneIsMended() {
        Cases.due(0, Cases.pushing(NINE).pairs());
    }

    static void p28SomeTubeOfTheseTwo() {
        for (int[] bends : new int[][] {{-1, 1}, {1, -1}}) {
            MendedTube x = Cases.bending(bends);
            Cases.due("BEND -1 at PLACE 0: 1 + 1 - 2 is 0", 1, x.pairs());
            Cases.due("two of four TURNS do not count: no TILT", 16, x.good(2));
        }
        MendedTube x = Cases.pushing(9, 8);
        x.let(3, 1);
        Cases.due("by TURNS 1 and 3 alone", 1, x.pairs());
    }

    /** PAIRS are 0 and 1, 0 and 2, 1 and 3. */
    private static MendedTube path() {
        MendedTube x = Cases.bending(2, 0, 3, -1);
        x.let(3, 3);
        return x;
    }

    /** PAIRS are 3 and each other one. */
    private static MendedTube star() {
        return Cases.bending(-1, -1, -1, 1);
    }

    static void p28AsManyAsCanBe() {
        Cases.due(2, path().pairs());
        Cases.due(1, star().pairs());
    }

    static void p29AsManyAsCanBeAheadOfTheLeast() {
        MendedTube x = path();
        int[] due = {2, 3, 0, 1};
        for (int l = 0; l < 4; l++) Cases.due("LENS " + l, due[l], x.mate(l));
    }

    static void p29OneWithoutCountsAs9() {
        MendedTube x = star();
        int[] due = {3, NONE, NONE, 0};
        for (int l = 0; l < 4; l++) Cases.due("LENS " + l, due[l], x.mate(l));
    }

    static void p29OfNineLenses() {
        MendedTube x = Cases.pushing(NINE);
        for (int l = 0; l < 9; l++) Cases.due("none is MENDED", NONE, x.mate(l));
        x.let(3, 1);
        int[] due = {1, 0, 3, 2, 5, 4, 7, 6, NONE};
        for (int l = 0; l < 9; l++) Cases.due("LENS " + l, due[l], x.mate(l));
    }

    static void p29NoSuchLens() {
        MendedTube x = new MendedTube();
        x.let(3, 999);
        for (int l = 0; l < 9; l++) {
            Cases.due("behind the last one", BAD, x.mate(l));
            x.lens(4, 0, 1, 1);
            Cases.due("the last one", l % 2 == 0 ? NONE : l - 1, x.mate(l));
        }
        Cases.each(BAD, Cases.outside(0, 8), x::mate);
    }

    // ---- 30, 31: years, turned

    static void p30NotInYear0() {
        Cases.due("empty", 0, new MendedTube().years());
        Cases.due("one LENS", 0, Cases.fitted(Cases.pushing(1)).years());
    }

    static void p30InYear0Alone() {
        MendedTube x = new MendedTube();
        x.let(2, 1);
        Cases.due(1, x.years());
    }

    static void p30EyeIs9AtMost() {
        MendedTube x = new MendedTube();
        x.let(3, 8);
        Cases.due("1 less 9 is 8 in size", 21, x.years());
        x.let(3, 7);
        Cases.due("till EYE 8", 9, x.years());
        x.let(2, 9);
        Cases.due("EYE 9 at once", 0, x.years());
        x.let(3, 8);
        Cases.due("EYE 9 for all YEARS", 21, x.years());
        x.let(2, -7);
        Cases.due("from EYE -7 on", 21, x.years());
        x.let(2, -8);
        Cases.due("9 by EYE -8", 0, x.years());
        x.let(3, 10);
        x.let(2, -9);
        Cases.due("from EYE -9 on: EYE 9 in YEAR 18", 21, x.years());
    }

    static void p30OfAFullTube() {
        MendedTube x = Cases.pushing(9, 9, 9, 9);
        for (int l = 0; l < 4; l++) x.fit(l, 1);
        x.let(3, 7);
        Cases.due(9, x.years());
        x.let(3, 8);
        Cases.due(21, x.years());
    }

    static void p30EyeAndTurnsStay() {
        MendedTube x = Cases.pushing(1);
        x.fit(0, 1);
        x.let(3, 8);
        Cases.due(21, x.years());
        Cases.due(0, x.setting(2));
        Cases.due(1, x.place(0, 1));
    }

    static void p31YearFrom1To20() {
        MendedTube x = new MendedTube();
        x.let(3, 8);
        for (int year = 1; year <= 20; year++) Cases.due("nothing is there to turn", 4, x.turned(year));
        Cases.each(BAD, Cases.outside(1, 20), x::turned);
    }

    static void p31BadAheadOfNone() {
        Cases.each(BAD, Cases.outside(1, 20), year -> new MendedTube().turned(year));
    }

    static void p31TillThatYearToo() {
        MendedTube x = new MendedTube();
        Cases.due("it lasts none", NONE, x.turned(1));
        x.let(3, 7);
        for (int year = 1; year <= 20; year++) Cases.due("YEAR " + year + " of 9", year < 9 ? 4 : NONE, x.turned(year));
        x.let(3, 0);
        x.let(2, 1);
        Cases.due("it lasts YEAR 0 alone", NONE, x.turned(1));
    }

    static void p31TheLeastPlaceAheadOfNone() {
        MendedTube x = Cases.fitted(Cases.pushing(0, 0));
        x.let(3, 8);
        for (int year = 1; year <= 20; year++) Cases.due(0, x.turned(year));
    }

    /** By EYE e the LENS pushes by 9 * (2 - e): not at all in YEAR 2. */
    static void p31Behind3Is0() {
        MendedTube x = Cases.pushing(9);
        x.fit(0, 3);
        x.let(3, 1);
        Cases.due(3, x.years());
        Cases.due("TURN 0 would push", 4, x.turned(1));
        Cases.due("TURN 0 does not", 0, x.turned(2));
        Cases.due(NONE, x.turned(3));
    }

    static void p31PlaceAtBothEnds() {
        MendedTube x = Cases.pushing(9, 9, 9, 0);
        for (int l = 0; l < 4; l++) x.fit(l, 1);
        x.let(3, 8);
        Cases.due("at PLACE 3 TURNS do not matter", 3, x.turned(1));
        x.exchange(0, 3);
        Cases.due("nor at PLACE 0 now", 0, x.turned(1));
        x.take(0);
        Cases.due("none", 4, x.turned(1));
    }

    /** WRONG of LENSES that only push, by GAP 1 and an EYE. */
    private static int wrongBy(int[] tilts, int[] turns, int eye) {
        int slope = 0;
        int height = 0;
        for (int p = 0; p < tilts.length; p++) {
            if (turns[p] == 0) slope += tilts[p];
            if (turns[p] == 2) slope -= tilts[p];
            height += slope;
        }
        slope -= eye * height;
        return Math.abs(height + slope) + Math.abs(1 - eye);
    }

    /** Each way is tried; the longest is answered, the FIRST of these is told from the YEAR on. */
    private static int lasts(int[] tilts, int[] turns, int year, int limit, int[] way) {
        if (year > 20 || wrongBy(tilts, turns, Math.min(9, year)) > limit) return 0;
        int longest = -1;
        for (int place = 0; place <= tilts.length; place++) {
            int[] turned = turns.clone();
            if (place < tilts.length) turned[place] = (turned[place] + 1) % 4;
            int[] behind = new int[22];
            int years = lasts(tilts, turned, year + 1, limit, behind);
            if (years <= longest) continue;
            longest = years;
            System.arraycopy(behind, 0, way, 0, 22);
            way[year + 1] = place < tilts.length ? place : 4;
        }
        return 1 + longest;
    }

    private static void ages(int[] tilts, int[] turns, int limit) {
        MendedTube x = Cases.pushing(tilts);
        for (int p = 0; p < tilts.length; p++) x.fit(p, turns[p]);
        x.let(3, limit);
        int[] way = new int[22];
        int years = lasts(tilts, turns, 0, limit, way);
        String told = java.util.Arrays.toString(tilts) + " by TURNS " + java.util.Arrays.toString(turns) + ", LIMIT " + limit;
        Cases.due("YEARS of " + told, years, x.years());
        for (int y = 1; y <= 8; y++) Cases.due("YEAR " + y + " of " + told, y < years ? way[y] : NONE, x.turned(y));
    }

    static void p31TheFirstWayOfTwoPlaces() {
        ages(new int[] {4, 2}, new int[] {1, 0}, 5);
        for (int turns = 0; turns < 16; turns++) {
            for (int[] tilts : new int[][] {{4, 2}, {2, 4}, {-3, 1}, {2, 3}}) {
                for (int limit = 1; limit <= 5; limit++) ages(tilts, new int[] {turns / 4, turns % 4}, limit);
            }
        }
    }

    static void p31TheFirstWayOfFourPlaces() {
        for (int turns = 0; turns < 256; turns++) {
            int[] four = {turns / 64, turns / 16 % 4, turns / 4 % 4, turns % 4};
            ages(new int[] {1, -2, 2, 3}, four, 3);
            ages(new int[] {3, 3, -1, 1}, four, 2);
        }
    }

    // ---- 32, 33: game, play

    static void p32NFrom1To3() {
        MendedTube x = Cases.pushing(NINE);
        x.let(3, 999);
        for (int n = 1; n <= 3; n++) Cases.due(1, x.game(n));
        Cases.each(BAD, NO_N, x::game);
        Cases.each(BAD, NO_N, n -> new MendedTube().game(n));
    }

    static void p32WithNoLensAtAll() {
        MendedTube x = new MendedTube();
        for (int n = 1; n <= 3; n++) Cases.due("WRONG 1, LIMIT 0", 0, x.game(n));
        x.let(3, 1);
        for (int n = 1; n <= 3; n++) Cases.due("WRONG 1, LIMIT 1", 1, x.game(n));
    }

    static void p32WithAFullTube() {
        MendedTube x = Cases.pushing(9, 0, 0, 0, 0);
        for (int l = 0; l < 4; l++) x.fit(l, 0);
        x.let(3, 1);
        for (int n = 1; n <= 3; n++) Cases.due("it pushes", 0, x.game(n));
        x.turn(0, 1);
        for (int n = 1; n <= 3; n++) Cases.due("it does not", 1, x.game(n));
    }

    static void p32ItEndsWhenTheTubeIsFull() {
        MendedTube x = Cases.pushing(0, 0, 0, 9, 9, 9);
        for (int l = 0; l < 3; l++) x.fit(l, 0);
        x.let(3, 1);
        for (int n = 1; n <= 3; n++) Cases.due("the other one can put nothing", 1, x.game(n));
        x.take(2);
        x.grind(2, 2, 9);
        Cases.due("one", 1, x.game(1));
        Cases.due("two: the other one pushes", 0, x.game(2));
        Cases.due("three: as two", 0, x.game(3));
    }

    static void p32ItEndsWhenNoLensIsLeft() {
        MendedTube x = Cases.pushing(9);
        x.let(3, 1);
        for (int n = 1; n <= 3; n++) Cases.due("one LENS", 1, x.game(n));
        x.lens(4, 0, 9, 1);
        Cases.due(1, x.game(1));
        Cases.due("two LENSES: the other one pushes", 0, x.game(2));
        Cases.due("two LENSES: as two", 0, x.game(3));
        x.fit(0, 1);
        for (int n = 1; n <= 3; n++) Cases.due("one is left", 1, x.game(n));
    }

    static void p32ItEndsWhenNArePut() {
        MendedTube x = Cases.pushing(2, 2, 2);
        x.let(3, 3);
        Cases.due("1: none pushes", 1, x.game(1));
        Cases.due("2: the other one pushes by 4", 0, x.game(2));
        Cases.due("3: as far back by the third: 6 - 4", 1, x.game(3));
    }

    static void p33NFrom1To3() {
        MendedTube x = Cases.pushing(NINE);
        x.let(3, 999);
        for (int n = 1; n <= 3; n++) Cases.due(0, x.play(n));
        Cases.each(BAD, NO_N, x::play);
    }

    static void p33ItCanPutNone() {
        MendedTube x = new MendedTube();
        for (int n = 1; n <= 3; n++) Cases.due("no LENS", NONE, x.play(n));
        x = Cases.fitted(Cases.pushing(0, 0));
        for (int n = 1; n <= 3; n++) Cases.due("all are in THE TUBE", NONE, x.play(n));
        x = Cases.pushing(0, 0, 0, 0, 0);
        for (int l = 0; l < 4; l++) x.fit(l, 0);
        for (int n = 1; n <= 3; n++) Cases.due("THE TUBE is full", NONE, x.play(n));
    }

    static void p33BadAheadOfNone() {
        Cases.each(BAD, NO_N, n -> new MendedTube().play(n));
        MendedTube x = Cases.fitted(Cases.pushing(0, 0, 0, 0));
        Cases.each(BAD, NO_N, x::play);
    }

    static void p33TheLeastLensThenTheLeastTurn() {
        MendedTube x = Cases.pushing(9, 0);
        x.let(3, 1);
        Cases.due("LENS 0 by TURN 1 ahead of LENS 1 by TURN 0", 1, x.play(1));
        x.fit(0, 1);
        Cases.due("LENS 1", 10, x.play(1));
        x = Cases.pushing(9, 9, 9, 9, 9, 9, 9, 9, 3);
        x.let(3, 7);
        x.grind(8, 1, 1);
        x.remake(8, 2);
        Cases.due("all can be MENDED", 1, x.play(1));
    }

    static void p33TheLastOfNine() {
        MendedTube x = Cases.bending(9, 8, 7, 6, 5, 4, 3, 2, 0);
        x.let(2, 1);
        Cases.due("by EYE 1 WRONG of one is its STRENGTH", 80, x.play(1));
        x.grind(8, 1, 1);
        Cases.due("none wins, so all come to that", 0, x.play(1));
    }

    static void p33TheFirstOneThatCantWin() {
        MendedTube x = Cases.pushing(9, 9, 9);
        x.let(3, 1);
        Cases.due(0, x.game(2));
        Cases.due("all come to that", 0, x.play(2));
        x.fit(0, 1);
        Cases.due("the least that is left", 10, x.play(2));
    }

    static void p33TheTubeStays() {
        MendedTube x = Cases.pushing(9, 9, 9);
        x.fit(1, 2);
        x.play(3);
        x.game(3);
        Cases.due(1, x.many(2));
        Cases.due(1, x.place(0, 0));
        Cases.due(2, x.place(0, 1));
        Cases.due(19, x.wrong());
    }

    public static void main(String[] args) throws Exception {
        Cases.run(EdgeHeapTest.class, 25, 33);
    }
}
