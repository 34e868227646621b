/** What promises 10 to 24 say of bounds, of the empty and the full TUBE, of refusals. */
public final class EdgeTubeTest {
    private static final int BAD = -1, FULL = -2, NONE = -3, STATE = -4;

    // ---- 10 to 14: rays

    static void p10HeightFromMinus9To9() {
        MendedTube x = new MendedTube();
        for (int height = -9; height <= 9; height++) Cases.due(height, x.seen(height));
        Cases.each(BAD, Cases.outside(-9, 9), x::seen);
    }

    /** A RAY meets the EYE alone: SLOPE is EYE times HEIGHT less, HEIGHT gets GAP times that. */
    static void p10ThroughAnEmptyTube() {
        MendedTube x = new MendedTube();
        for (int gap : new int[] {1, 3}) {
            for (int eye : new int[] {-9, -1, 0, 1, 9}) {
                x.let(1, gap);
                x.let(2, eye);
                for (int h : new int[] {-9, -1, 0, 1, 9}) Cases.due("GAP " + gap + ", EYE " + eye, h - gap * eye * h, x.seen(h));
            }
        }
    }

    /** Four of STRENGTH -9 and TILT 9 by GAP 3, EYE -9: behind each, SLOPE is 9 times HEIGHT more (and 9), HEIGHT 3 times that. */
    static void p10ThroughAFullTubeAtItsEnds() {
        MendedTube x = new MendedTube();
        for (int l = 0; l < 4; l++) x.lens(2, -9, 9, 1);
        Cases.fitted(x);
        x.let(1, 3);
        x.let(2, -9);
        for (int came : new int[] {-9, 0, 9}) {
            long height = came;
            long slope = 0;
            for (int k = 0; k < 5; k++) {
                slope += 9 * height + (k < 4 ? 9 : 0);
                height += 3 * slope;
            }
            Cases.due("came at " + came, height, x.seen(came));
        }
    }

    static void p10AsLowAsARefusal() {
        MendedTube x = new MendedTube();
        Cases.due(-1, x.seen(-1));
        Cases.due(-3, x.seen(-3));
    }

    static void p10ThroughAllPlacesInTheirOrder() {
        MendedTube x = Cases.fitted(Cases.pushing(1, 2, 3, 4));
        Cases.due("5 + 4 * 2 + 3 * 3 + 2 * 4", 30, x.seen(0));
        x.exchange(0, 3);
        Cases.due("5 * 4 + 4 * 2 + 3 * 3 + 2", 39, x.seen(0));
    }

    static void p10PushByEachTurn() {
        MendedTube x = Cases.fitted(Cases.pushing(9));
        int[] due = {18, 0, -18, 0};
        for (int t = 0; t < 4; t++) {
            x.turn(0, t);
            Cases.due("TURN " + t, due[t], x.seen(0));
        }
    }

    static void p10TheEyeDoesNotPush() {
        MendedTube x = new MendedTube();
        for (int eye = -9; eye <= 9; eye++) {
            x.let(2, eye);
            Cases.due(0, x.seen(0));
        }
    }

    static void p11OfAnEmptyTube() {
        MendedTube x = new MendedTube();
        x.let(1, 3);
        for (int eye : new int[] {-9, 0, 9}) {
            x.let(2, eye);
            Cases.due(0, x.shift());
        }
    }

    static void p11TheSizeOfSeen() {
        MendedTube x = Cases.fitted(Cases.pushing(-7));
        Cases.due(-14, x.seen(0));
        Cases.due(14, x.shift());
        x.turn(0, 2);
        Cases.due(14, x.shift());
        x.turn(0, 3);
        Cases.due(0, x.shift());
    }

    static void p12OfAnEmptyTube() {
        MendedTube x = new MendedTube();
        Cases.due(1, x.blur());
        x.let(2, 1);
        Cases.due(0, x.blur());
        x.let(1, 3);
        int[][] due = {{-9, 28}, {0, 1}, {9, 26}};
        for (int[] d : due) {
            x.let(2, d[0]);
            Cases.due("EYE " + d[0], d[1], x.blur());
        }
    }

    static void p12OneLessTheOther() {
        MendedTube x = Cases.fitted(Cases.pushing(-7));
        Cases.due(-13, x.seen(1));
        Cases.due(1, x.blur());
        x.let(2, 9);
        Cases.due(-7 - 7 + 63, x.seen(0));
        Cases.due(8, x.blur());
    }

    static void p13OfAnEmptyTube() {
        MendedTube x = new MendedTube();
        Cases.due(1, x.wrong());
        x.let(2, 1);
        Cases.due(0, x.wrong());
        x.let(2, -9);
        x.let(1, 3);
        Cases.due(28, x.wrong());
    }

    static void p13BothTogether() {
        MendedTube x = Cases.fitted(Cases.pushing(-7));
        Cases.due(15, x.wrong());
        x.turn(0, 2);
        Cases.due(15, x.wrong());
    }

    /** BENDS 9, -5 by EYE -9: SEEN of 0 is 380, of 1 less that -619. */
    private static MendedTube wrongBy999() {
        MendedTube x = new MendedTube();
        x.lens(2, 9, 5, 1);
        x.lens(2, -5, 0, 1);
        x.let(2, -9);
        return Cases.fitted(x);
    }

    /** BENDS 9, -8 by EYE -8. */
    private static MendedTube wrongBy1000() {
        MendedTube x = new MendedTube();
        x.lens(2, 9, 2, 1);
        x.lens(2, -8, 0, 1);
        x.let(2, -8);
        return Cases.fitted(x);
    }

    static void p14WrongIsLimit() {
        MendedTube x = Cases.fitted(Cases.pushing(3));
        for (int limit = 5; limit <= 9; limit++) {
            x.let(3, limit);
            Cases.due("WRONG 7, LIMIT " + limit, limit < 7 ? 0 : 1, x.mended());
        }
    }

    static void p14Limit0() {
        MendedTube x = new MendedTube();
        Cases.due("WRONG 1", 0, x.mended());
        x.let(2, 1);
        Cases.due("WRONG 0", 1, x.mended());
    }

    static void p14Limit999() {
        MendedTube x = wrongBy999();
        Cases.due(999, x.wrong());
        x.let(3, 998);
        Cases.due(0, x.mended());
        x.let(3, 999);
        Cases.due(1, x.mended());
        x = wrongBy1000();
        Cases.due(1000, x.wrong());
        x.let(3, 999);
        Cases.due(0, x.mended());
    }

    // ---- 15 to 20: PLACES

    static void p15TurnFrom0To3() {
        MendedTube x = Cases.pushing(1, 1, 1, 1);
        for (int t = 0; t < 4; t++) {
            Cases.each(BAD, Cases.outside(0, 3), v -> x.fit(0, v));
            int l = t;
            Cases.due(t, x.fit(l, t));
            Cases.due(t, x.place(t, 1));
        }
    }

    static void p15NoSuchLens() {
        MendedTube x = new MendedTube();
        Cases.due("none at all", BAD, x.fit(0, 0));
        for (int l = 0; l < 9; l++) {
            Cases.due("behind the last one", BAD, x.fit(l, 0));
            x.lens(1, 0, 0, 1);
        }
        Cases.each(BAD, Cases.outside(0, 8), l -> x.fit(l, 0));
        Cases.due(0, x.fit(8, 0));
    }

    static void p15BehindTheLastOne() {
        MendedTube x = Cases.pushing(1, 1, 1, 1, 1, 1, 1, 1, 1);
        int[] lenses = {8, 0, 4, 3};
        for (int p = 0; p < 4; p++) Cases.due(p, x.fit(lenses[p], 0));
        for (int p = 0; p < 4; p++) Cases.due(lenses[p], x.place(p, 0));
    }

    static void p15TheFifthIsFull() {
        MendedTube x = Cases.pushing(1, 2, 3, 4, 5);
        for (int l = 0; l < 4; l++) x.fit(l, 0);
        Cases.due(FULL, x.fit(4, 0));
        Cases.due(4, x.many(2));
        Cases.due(-9, x.lensOf(4, 5));
        x.take(0);
        Cases.due("there is one again", 3, x.fit(4, 0));
    }

    static void p15EachLensOnceAtMost() {
        MendedTube x = Cases.pushing(1, 2, 3);
        for (int l = 0; l < 3; l++) x.fit(l, l);
        for (int l = 0; l < 3; l++) {
            for (int t = 0; t < 4; t++) Cases.due(STATE, x.fit(l, t));
            Cases.due("its TURN stays", l, x.place(l, 1));
        }
        x.take(1);
        Cases.due("it is there no more", 2, x.fit(1, 0));
    }

    static void p15BadAheadOfFullAheadOfState() {
        MendedTube x = Cases.pushing(1, 2, 3, 4, 5);
        x.fit(0, 0);
        Cases.due("BAD, STATE", BAD, x.fit(0, 4));
        for (int l = 1; l < 4; l++) x.fit(l, 0);
        Cases.due("BAD, FULL", BAD, x.fit(5, 0));
        Cases.due("BAD, FULL", BAD, x.fit(4, 4));
        Cases.due("BAD, FULL, STATE", BAD, x.fit(0, -1));
        Cases.due("FULL, STATE", FULL, x.fit(0, 0));
    }

    private static final int[] NO_PLACE = Cases.outside(0, 3);

    static void p16NoSuchPlace() {
        MendedTube x = Cases.pushing(1, 1, 1, 1);
        for (int places = 0; places < 4; places++) {
            Cases.due("behind the last one", BAD, x.take(places));
            x.fit(places, 0);
        }
        Cases.each(BAD, NO_PLACE, x::take);
        Cases.due(4, x.many(2));
    }

    static void p16ThoseBehindCloseUp() {
        for (int taken = 0; taken < 4; taken++) {
            MendedTube x = Cases.pushing(1, 1, 1, 1);
            for (int l = 0; l < 4; l++) x.fit(l, 3 - l);
            Cases.due(taken, x.take(taken));
            Cases.due(3, x.many(2));
            for (int p = 0; p < 3; p++) {
                int l = p < taken ? p : p + 1;
                Cases.due(l, x.place(p, 0));
                Cases.due(3 - l, x.place(p, 1));
            }
            Cases.due(BAD, x.place(3, 0));
        }
    }

    static void p16TillItIsEmpty() {
        MendedTube x = Cases.fitted(Cases.pushing(1, 1, 1, 1));
        for (int l = 0; l < 4; l++) Cases.due(l, x.take(0));
        Cases.due(BAD, x.take(0));
        Cases.due(0, x.many(2));
        Cases.due("the LENSES are there still", 4, x.many(0));
        Cases.due("WRONG of an empty TUBE", 1, x.wrong());
    }

    static void p17NoSuchPlace() {
        MendedTube x = Cases.pushing(1, 1, 1, 1);
        for (int places = 0; places < 4; places++) {
            Cases.due("behind the last one", BAD, x.place(places, 0));
            Cases.due("behind the last one", BAD, x.place(places, 1));
            x.fit(places, 0);
        }
        Cases.each(BAD, NO_PLACE, p -> x.place(p, 0));
        Cases.each(BAD, NO_PLACE, p -> x.place(p, 1));
    }

    static void p17WhatIs0Or1() {
        MendedTube x = Cases.pushing(1, 1);
        x.fit(1, 3);
        Cases.due(1, x.place(0, 0));
        Cases.due(3, x.place(0, 1));
        Cases.each(BAD, Cases.outside(0, 1), what -> x.place(0, what));
    }

    static void p18NoSuchPlace() {
        MendedTube x = Cases.pushing(1, 1, 1, 1);
        for (int places = 0; places < 4; places++) {
            Cases.due("behind the last one", BAD, x.turn(places, 1));
            x.fit(places, 0);
        }
        Cases.each(BAD, NO_PLACE, p -> x.turn(p, 1));
        for (int p = 0; p < 4; p++) Cases.due(0, x.place(p, 1));
    }

    static void p18TurnFrom0To3() {
        MendedTube x = Cases.fitted(Cases.pushing(1, 1, 1, 1));
        for (int p = 0; p < 4; p++) {
            int was = 0;
            for (int t : new int[] {3, 0, 2, 1}) {
                Cases.due(was, x.turn(p, t));
                Cases.due(t, x.place(p, 1));
                was = t;
            }
            int place = p;
            Cases.each(BAD, Cases.outside(0, 3), t -> x.turn(place, t));
            Cases.due("refused", 1, x.place(p, 1));
        }
    }

    static void p19NoSuchPlace() {
        MendedTube x = Cases.pushing(1, 1, 1, 1);
        for (int places = 0; places < 4; places++) {
            Cases.due("behind the last one", BAD, x.exchange(places, 0));
            Cases.due("behind the last one", BAD, x.exchange(0, places));
            Cases.due("one and the same, but not there", BAD, x.exchange(places, places));
            x.fit(places, 0);
        }
        Cases.each(BAD, NO_PLACE, p -> x.exchange(p, 0));
        Cases.each(BAD, NO_PLACE, p -> x.exchange(3, p));
        Cases.each(BAD, NO_PLACE, p -> x.exchange(p, p));
        for (int p = 0; p < 4; p++) Cases.due(p, x.place(p, 0));
    }

    static void p19OneAndTheSame() {
        MendedTube x = Cases.pushing(1, 1, 1, 1);
        for (int l = 0; l < 4; l++) x.fit(l, l);
        for (int p = 0; p < 4; p++) Cases.due(0, x.exchange(p, p));
        for (int p = 0; p < 4; p++) {
            Cases.due(p, x.place(p, 0));
            Cases.due(p, x.place(p, 1));
        }
    }

    static void p19WithTheirTurns() {
        for (int p = 0; p < 4; p++) {
            for (int q = 0; q < 4; q++) {
                if (p == q) continue;
                MendedTube x = Cases.pushing(1, 1, 1, 1);
                for (int l = 0; l < 4; l++) x.fit(3 - l, l);
                Cases.due(1, x.exchange(p, q));
                for (int at = 0; at < 4; at++) {
                    int from = at == p ? q : at == q ? p : at;
                    Cases.due(3 - from, x.place(at, 0));
                    Cases.due(from, x.place(at, 1));
                }
            }
        }
    }

    static void p20OfAnEmptyTube() {
        MendedTube x = Cases.pushing(1, 1);
        Cases.due(0, x.price());
        Cases.due(0, new MendedTube().price());
    }

    static void p20OfAFullTube() {
        MendedTube x = new MendedTube();
        for (int l = 0; l < 5; l++) x.lens(1, 0, 0, 999);
        for (int l = 0; l < 4; l++) {
            x.fit(l, l);
            Cases.due(999 * (l + 1), x.price());
        }
        for (int l = 0; l < 4; l++) x.grind(l, 3, 1);
        Cases.due(4, x.price());
    }

    // ---- 21, 22: fix, change. Of four that push, SEEN of 0 is 5a + 4b + 3c + 2d; of two 3a + 2b; BLUR is 1.

    static void p21OfAnEmptyTube() {
        Cases.due(NONE, new MendedTube().fix());
        Cases.due(NONE, Cases.pushing(1, 2).fix());
    }

    static void p21AsGoodAsNowIsNotLess() {
        MendedTube x = Cases.pushing(5);
        x.fit(0, 1);
        Cases.due("TURN 3 is as good", NONE, x.fix());
        x.turn(0, 3);
        Cases.due("TURN 1 is as good", NONE, x.fix());
        x.grind(0, 2, 0);
        Cases.due("all are as good", NONE, x.fix());
    }

    static void p21Place0Turn0() {
        MendedTube x = Cases.pushing(2, -3);
        x.fit(0, 2);
        x.fit(1, 0);
        Cases.due("- 6 - 6 becomes 6 - 6", 0, x.fix());
    }

    static void p21LeastPlaceThenLeastTurn() {
        MendedTube x = Cases.pushing(2, 3);
        x.fit(0, 0);
        x.fit(1, 0);
        Cases.due("6 + 6 becomes 6 - 6 or - 6 + 6", 2, x.fix());
        x = Cases.pushing(0, 0, 0, 4);
        Cases.due("8 becomes 0 by TURN 1 or 3", 31, Cases.fitted(x).fix());
    }

    static void p21TheLastPlace() {
        MendedTube x = Cases.fitted(Cases.pushing(0, 2, 0, 4));
        Cases.due("8 + 8 becomes 8 - 8 at PLACE 3, or at 1", 12, x.fix());
        x = Cases.fitted(Cases.pushing(2, 0, 0, 5));
        Cases.due("10 + 10 becomes 10 - 10", 2, x.fix());
        x = Cases.fitted(Cases.pushing(2, 1, 1, 9));
        Cases.due("35 becomes - 1", 32, x.fix());
    }

    static void p21NothingChanges() {
        MendedTube x = Cases.pushing(2, 3);
        x.fit(0, 2);
        x.fit(1, 2);
        Cases.due(0, x.fix());
        Cases.due(2, x.place(0, 1));
        Cases.due(2, x.place(1, 1));
        Cases.due(13, x.wrong());
    }

    static void p22OfNoneAndOfOne() {
        MendedTube x = Cases.pushing(9);
        Cases.due("empty", NONE, x.change());
        x.fit(0, 0);
        Cases.due("one PLACE", NONE, x.change());
    }

    static void p22AsGoodAsNowIsNotLess() {
        Cases.due(NONE, Cases.fitted(Cases.pushing(4, 4)).change());
        Cases.due("3 * 2 - 2 * 5 becomes 3 * 5 - 2 * 2", NONE, Cases.fitted(Cases.pushing(2, -5)).change());
        Cases.due("3 * 1 - 2 * 1 becomes - 3 + 2", NONE, Cases.fitted(Cases.pushing(1, -1)).change());
    }

    static void p22LeastThenLeastOther() {
        MendedTube x = Cases.fitted(Cases.pushing(9, 0, 0, 0));
        Cases.due("45 becomes 18", 3, x.change());
        x = Cases.fitted(Cases.pushing(0, 3, 3, 0));
        Cases.due("21 becomes 15 by 1, 3, 18 by 2, 3", 13, x.change());
        x = Cases.fitted(Cases.pushing(1, 1, 0, 0));
        Cases.due("9 becomes 6 by 0, 3; 7 by 0, 2", 3, x.change());
        x = Cases.fitted(Cases.pushing(3, 1, 2, 0));
        Cases.due("25 becomes 23 by 0, 1; 0, 2 or 1, 3; 16 by 0, 3", 3, x.change());
        x = Cases.fitted(Cases.pushing(2, 1));
        x.lens(4, 0, 0, 1);
        x.fit(2, 0);
        Cases.due("11 becomes 7 by 0, 2", 2, x.change());
    }

    static void p22AsGoodByTwo() {
        MendedTube x = Cases.fitted(Cases.pushing(7, -1, -9));
        Cases.due("7 becomes - 1 by 0, 1, 1 by 1, 2 (4a + 3b + 2c)", 1, x.change());
        x = Cases.fitted(Cases.pushing(4, 0, 2, 4));
        Cases.due("34 becomes 30 by 0, 1 and by 0, 2", 1, x.change());
        x = Cases.fitted(Cases.pushing(0, 4, 0, 2));
        Cases.due("20 becomes 16 by 1, 2 and by 1, 3", 12, x.change());
    }

    static void p22TheLastTwo() {
        Cases.due("9 - 4 becomes - 6 + 6", 23, Cases.fitted(Cases.pushing(0, 0, 3, -2)).change());
    }

    static void p22NothingChanges() {
        MendedTube x = Cases.fitted(Cases.pushing(9, 0, 0, 1));
        Cases.due(3, x.change());
        for (int p = 0; p < 4; p++) Cases.due(p, x.place(p, 0));
        Cases.due(48, x.wrong());
    }

    // ---- 23, 24: heatFor, eyes

    static void p23From0To9() {
        for (int heat = 0; heat <= 9; heat++) {
            MendedTube x = Cases.bending(0);
            x.fit(0, 0);
            Cases.tell(x, "lens if heat = " + heat + " less " + heat + ";lens more 19;");
            Cases.due("1 less twice STRENGTH is never 0", NONE, x.heatFor());
            x.let(3, 1);
            Cases.due("by this HEAT alone the LENS does not bend", heat, x.heatFor());
        }
    }

    static void p23TheLeastOfSeveral() {
        MendedTube x = new MendedTube();
        x.let(3, 1);
        for (int heat : new int[] {0, 5, 9}) {
            x.let(0, heat);
            Cases.due("empty TUBE, MENDED whatever HEAT", 0, x.heatFor());
        }
    }

    static void p23None() {
        MendedTube x = new MendedTube();
        Cases.due("empty TUBE, WRONG 1", NONE, x.heatFor());
        x.let(0, 9);
        Cases.due(NONE, x.heatFor());
    }

    static void p23RulesAskByItToo() {
        MendedTube x = Cases.fitted(Cases.pushing(0));
        x.let(2, 1);
        Cases.due("STRENGTH 0: SEEN of 1 is 0", 0, x.heatFor());
        Cases.tell(x, "twin if heat < 9 more 1;");
        Cases.due(9, x.heatFor());
    }

    static void p23HeatStays() {
        MendedTube x = Cases.bending(3);
        x.let(0, 7);
        x.fit(0, 0);
        x.heatFor();
        Cases.due(7, x.setting(0));
        Cases.due("as before: STRENGTH 9", 9, x.lensOf(0, 4));
    }

    static void p24From0To19() {
        MendedTube x = Cases.fitted(Cases.pushing(1));
        Cases.due("none", 0, x.eyes());
        x.let(3, 999);
        Cases.due("all", 19, x.eyes());
    }

    static void p24OfAnEmptyTube() {
        MendedTube x = new MendedTube();
        int[][] due = {{0, 1}, {1, 3}, {7, 15}, {8, 17}, {9, 18}, {10, 19}};
        for (int[] d : due) {
            x.let(3, d[0]);
            Cases.due("1 less EYE is " + d[0] + " at most in size", d[1], x.eyes());
        }
    }

    static void p24RulesAskByThemToo() {
        MendedTube x = Cases.fitted(Cases.pushing(0));
        x.let(3, 999);
        x.let(3, 1);
        Cases.due("1 less EYE is -1 to 1", 3, x.eyes());
        Cases.tell(x, "twin if eye = 1 more 9;");
        Cases.due("but for EYE 1", 2, x.eyes());
        Cases.tell(x, "twin if eye < 0 or eye > 0 more 9;");
        Cases.due("EYE 0; and EYE 2: 1 - 9 is -8, 16 - 9 is 7, -8 + 7 is -1", 2, x.eyes());
    }

    static void p24EyeStays() {
        MendedTube x = new MendedTube();
        x.let(2, -9);
        x.eyes();
        Cases.due(-9, x.setting(2));
        Cases.due(10, x.wrong());
    }

    public static void main(String[] args) throws Exception {
        Cases.run(EdgeTubeTest.class, 10, 24);
    }
}
