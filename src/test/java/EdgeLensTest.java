/** What promises 1 to 7 say of bounds, of the empty and the full state, of refusals. */
public final class EdgeLensTest {
    private static final int BAD = -1, FULL = -2, NONE = -3;
    private static final int[] NO_LENS = Cases.outside(0, 8);

    // ---- 1: a new object

    static void p1NoLenses() {
        MendedTube x = new MendedTube();
        Cases.due(0, x.many(0));
        Cases.each(BAD, new int[] {-1, 0, 1, 8}, l -> x.lensOf(l, 0));
    }

    static void p1NoRules() {
        MendedTube x = new MendedTube();
        Cases.due(0, x.many(1));
        x.lens(2, 5, 0, 1);
        Cases.due("so BEND tells STRENGTH", 5, x.lensOf(0, 4));
    }

    static void p1NoReports() {
        MendedTube x = new MendedTube();
        Cases.due(0, x.many(3));
        Cases.due(0, x.forget());
    }

    static void p1TubeIsEmpty() {
        MendedTube x = new MendedTube();
        Cases.due(0, x.many(2));
        Cases.due(BAD, x.place(0, 0));
        Cases.due(BAD, x.take(0));
    }

    static void p1NothingIsKept() {
        Cases.due(NONE, new MendedTube().again());
    }

    static void p1Heat0AtFirst() {
        Cases.due(0, new MendedTube().setting(0));
    }

    static void p1Gap1AtFirst() {
        Cases.due(1, new MendedTube().setting(1));
    }

    static void p1Eye0AtFirst() {
        Cases.due(0, new MendedTube().setting(2));
    }

    static void p1Limit0AtFirst() {
        Cases.due(0, new MendedTube().setting(3));
    }

    static void p1Z1AtFirst() {
        Cases.due(1, new MendedTube().seed(0));
    }

    static void p1TapeRowsAndTraceAreEmpty() {
        MendedTube x = new MendedTube();
        for (int what = 4; what <= 6; what++) Cases.due(0, x.many(what));
        Cases.due(-9, x.row(0, 0));
        Cases.due(NONE, x.trace(0));
    }

    static void p1SheetsAreMissingAtFirst() {
        MendedTube x = new MendedTube();
        for (int s = 0; s < 4; s++) {
            for (int sort = 0; sort <= 4; sort++) Cases.due(-11, x.item(s, sort, 0));
        }
    }

    static void p1ShelvesHoldNothingAtFirst() {
        MendedTube x = new MendedTube();
        for (int s = 0; s < 4; s++) {
            for (int as : new int[] {0, 1, 2, 3, 4, 5, 10, 11, 12, 13, 14}) Cases.due(-11, x.taken(s, as));
            Cases.due(0, x.act(s, 0, 7));
        }
    }

    static void p1ObjectsAreApart() {
        MendedTube one = Cases.fitted(Cases.pushing(1));
        one.let(0, 9);
        one.keep();
        one.sheet(0, 0, 3);
        MendedTube other = new MendedTube();
        Cases.due(0, other.many(0));
        Cases.due(0, other.many(2));
        Cases.due(0, other.setting(0));
        Cases.due(NONE, other.again());
        Cases.due(-11, other.item(0, 0, 0));
    }

    // ---- 2: lens

    static void p2KindFrom1To5() {
        MendedTube x = new MendedTube();
        for (int kind = 1; kind <= 5; kind++) {
            Cases.due(kind - 1, x.lens(kind, 0, 0, 1));
            Cases.due(kind, x.lensOf(kind - 1, 0));
        }
        Cases.each(BAD, Cases.outside(1, 5), v -> x.lens(v, 0, 0, 1));
        Cases.due(5, x.many(0));
    }

    static void p2KindLensIsNotMade() {
        Cases.due(BAD, new MendedTube().lens(0, 0, 0, 1));
    }

    static void p2BendFromMinus9To9() {
        MendedTube x = new MendedTube();
        for (int bend : new int[] {-9, 9}) Cases.due(bend, x.lensOf(x.lens(1, bend, 0, 1), 1));
        Cases.each(BAD, Cases.outside(-9, 9), v -> x.lens(1, v, 0, 1));
        Cases.due(2, x.many(0));
    }

    static void p2TiltFromMinus9To9() {
        MendedTube x = new MendedTube();
        for (int tilt : new int[] {-9, 9}) Cases.due(tilt, x.lensOf(x.lens(1, 0, tilt, 1), 2));
        Cases.each(BAD, Cases.outside(-9, 9), v -> x.lens(1, 0, v, 1));
        Cases.due(2, x.many(0));
    }

    static void p2PriceFrom1To999() {
        MendedTube x = new MendedTube();
        for (int price : new int[] {1, 999}) Cases.due(price, x.lensOf(x.lens(1, 0, 0, price), 3));
        Cases.each(BAD, Cases.outside(1, 999), v -> x.lens(1, 0, 0, v));
        Cases.due(2, x.many(0));
    }

    static void p2NumberedAsTheyCome() {
        MendedTube x = new MendedTube();
        for (int l = 0; l < 9; l++) {
            Cases.due(l, x.lens(1 + l % 5, l - 4, 4 - l, 100 + l));
            Cases.due(BAD, x.lens(6, 0, 0, 1));
        }
        for (int l = 0; l < 9; l++) {
            int[] due = {1 + l % 5, l - 4, 4 - l, 100 + l};
            for (int what = 0; what < 4; what++) Cases.due("LENS " + l, due[what], x.lensOf(l, what));
        }
    }

    static void p2TheTenthIsFull() {
        MendedTube x = Cases.pushing(1, 2, 3, 4, 5, 6, 7, 8);
        Cases.due("the ninth", 8, x.lens(1, 0, 0, 1));
        Cases.due(FULL, x.lens(1, 0, 0, 1));
        Cases.due(9, x.many(0));
        Cases.due("the last one stays", 8, x.lensOf(7, 2));
    }

    static void p2BadAheadOfFull() {
        MendedTube x = Cases.pushing(1, 2, 3, 4, 5, 6, 7, 8, 9);
        Cases.due(BAD, x.lens(0, 0, 0, 1));
        Cases.due(BAD, x.lens(1, 10, 0, 1));
        Cases.due(BAD, x.lens(1, 0, -10, 1));
        Cases.due(BAD, x.lens(1, 0, 0, 0));
        Cases.due(FULL, x.lens(1, 0, 0, 1));
    }

    // ---- 3: lensOf

    static void p3NoSuchLens() {
        MendedTube x = new MendedTube();
        for (int l = 0; l < 9; l++) {
            for (int what = 0; what <= 5; what++) Cases.due(BAD, x.lensOf(l, what));
            x.lens(1, 0, 0, 1);
            Cases.due("it is there now", 1, x.lensOf(l, 0));
        }
        Cases.each(BAD, NO_LENS, l -> x.lensOf(l, 0));
    }

    static void p3WhatFrom0To5() {
        MendedTube x = Cases.pushing(3);
        int[] due = {4, 0, 3, 1, 0, -9};
        for (int what = 0; what <= 5; what++) Cases.due(due[what], x.lensOf(0, what));
        Cases.each(BAD, Cases.outside(0, 5), what -> x.lensOf(0, what));
    }

    /** By RULES that tell more or less, b is told from -9 - 99 to 9 + 99. */
    private static void strengths(int kind, int heat, int[] bends, int[] due) {
        MendedTube x = new MendedTube();
        x.lens(kind, 0, 0, 1);
        x.let(0, heat);
        for (int i = 0; i < bends.length; i++) {
            Cases.tell(x, bends[i] < 0 ? "lens less " + -bends[i] + ";" : "lens more " + bends[i] + ";");
            Cases.due("b " + bends[i], due[i], x.lensOf(0, 4));
        }
    }

    static void p3StrengthOfScratchedIsHalfCutTowards0() {
        strengths(1, 9, new int[] {-3, -2, -1, 0, 1, 2, 3}, new int[] {-1, -1, 0, 0, 0, 1, 1});
    }

    static void p3StrengthOfScratchedIsCutTo9() {
        strengths(1, 0, new int[] {-99, -20, -19, -18, -17, 17, 18, 19, 20, 99}, new int[] {-9, -9, -9, -9, -8, 8, 9, 9, 9, 9});
    }

    static void p3StrengthOfWarmIsCutTo9() {
        strengths(2, 9, new int[] {-99, -19, -18, -17, -1, 0, 1, 99}, new int[] {-9, -9, -9, -8, 8, 9, 9, 9});
        strengths(2, 0, new int[] {-10, -9, -8, 8, 9, 10}, new int[] {-9, -9, -8, 8, 9, 9});
    }

    static void p3StrengthOfDustyIsCutTo9InTheEndAlone() {
        strengths(3, 9, new int[] {-99, -18, -17, -16, 0, 1, 2, 99}, new int[] {-9, -9, -9, -8, 8, 9, 9, 9});
        strengths(3, 0, new int[] {-9, -8, -7, 9, 10, 11}, new int[] {-9, -9, -8, 8, 9, 9});
    }

    static void p3StrengthOfTwinIsCutTo9() {
        strengths(4, 9, new int[] {-99, -5, -4, 0, 4, 5, 99}, new int[] {-9, -9, -8, 0, 8, 9, 9});
    }

    static void p3StrengthOfTiltedIsCutTo9() {
        strengths(5, 9, new int[] {-99, -5, -4, 0, 4, 5, 99}, new int[] {9, 9, 8, 0, -8, -9, -9});
    }

    static void p3StrengthAtTheEndsOfBendAndHeat() {
        MendedTube x = new MendedTube();
        for (int kind = 1; kind <= 5; kind++) {
            x.lens(kind, -9, 0, 1);
        }
        int[] cold = {-4, -9, -9, -9, 9};
        for (int l = 0; l < 5; l++) Cases.due("BEND -9", cold[l], x.lensOf(l, 4));
        x.let(0, 9);
        int[] hot = {-4, 0, -1, -9, 9};
        for (int l = 0; l < 5; l++) Cases.due("BEND -9 by HEAT 9", hot[l], x.lensOf(l, 4));
        for (int l = 0; l < 5; l++) x.grind(l, 1, 9);
        int[] hotter = {4, 9, 9, 9, -9};
        for (int l = 0; l < 5; l++) Cases.due("BEND 9 by HEAT 9", hotter[l], x.lensOf(l, 4));
    }

    static void p3NotInTheTube() {
        MendedTube x = Cases.pushing(1, 2, 3, 4, 5);
        for (int l = 0; l < 5; l++) Cases.due("empty TUBE", -9, x.lensOf(l, 5));
        for (int l = 4; l > 0; l--) x.fit(l, 0);
        Cases.due(-9, x.lensOf(0, 5));
        for (int l = 4; l > 0; l--) Cases.due(4 - l, x.lensOf(l, 5));
        x.take(1);
        Cases.due("taken out", -9, x.lensOf(3, 5));
        Cases.due("those behind closed up", 2, x.lensOf(1, 5));
    }

    // ---- 4: grind

    private static void grinds(int what, int least, int greatest) {
        MendedTube x = new MendedTube();
        x.lens(1, 3, 3, 3);
        for (int v : new int[] {least, greatest}) {
            Cases.due("another one", 1, x.grind(0, what, v));
            Cases.due("the same", 0, x.grind(0, what, v));
            Cases.due("it became so", v, x.lensOf(0, what));
        }
        Cases.each(BAD, Cases.outside(least, greatest), v -> x.grind(0, what, v));
        Cases.due("refused", greatest, x.lensOf(0, what));
    }

    static void p4BendFromMinus9To9() {
        grinds(1, -9, 9);
    }

    static void p4TiltFromMinus9To9() {
        grinds(2, -9, 9);
    }

    static void p4PriceFrom1To999() {
        grinds(3, 1, 999);
    }

    static void p4WhatFrom1To3() {
        MendedTube x = Cases.pushing(1);
        Cases.each(BAD, Cases.outside(1, 3), what -> x.grind(0, what, 1));
        Cases.due("KIND is not ground", 4, x.lensOf(0, 0));
    }

    static void p4NoSuchLens() {
        MendedTube x = new MendedTube();
        Cases.due("none at all", BAD, x.grind(0, 1, 1));
        x.lens(1, 0, 0, 5);
        Cases.due("behind the last one", BAD, x.grind(1, 1, 1));
        Cases.each(BAD, NO_LENS, l -> x.grind(l, 1, 1));
        Cases.due(0, x.lensOf(0, 1));
    }

    static void p4TheOthersStay() {
        MendedTube x = new MendedTube();
        for (int l = 0; l < 9; l++) x.lens(1, 1, 2, 3);
        x.grind(8, 1, 9);
        x.grind(0, 2, -9);
        x.grind(4, 3, 999);
        for (int l = 0; l < 9; l++) {
            Cases.due(l == 8 ? 9 : 1, x.lensOf(l, 1));
            Cases.due(l == 0 ? -9 : 2, x.lensOf(l, 2));
            Cases.due(l == 4 ? 999 : 3, x.lensOf(l, 3));
        }
    }

    // ---- 5: remake

    static void p5KindFrom1To5() {
        MendedTube x = Cases.pushing(1);
        int was = 4;
        for (int kind = 1; kind <= 5; kind++) {
            Cases.due(was, x.remake(0, kind));
            Cases.due(kind, x.lensOf(0, 0));
            was = kind;
        }
        Cases.each(BAD, Cases.outside(1, 5), kind -> x.remake(0, kind));
        Cases.due("refused", 5, x.lensOf(0, 0));
    }

    static void p5KindLensIsNotMade() {
        Cases.due(BAD, Cases.pushing(1).remake(0, 0));
    }

    static void p5NoSuchLens() {
        MendedTube x = new MendedTube();
        Cases.due("none at all", BAD, x.remake(0, 1));
        x.lens(1, 0, 0, 5);
        Cases.due("behind the last one", BAD, x.remake(1, 2));
        Cases.each(BAD, NO_LENS, l -> x.remake(l, 2));
        Cases.due(1, x.lensOf(0, 0));
    }

    // ---- 6, 7: setting, let

    static void p6WhatFrom0To3() {
        MendedTube x = new MendedTube();
        int[] due = {0, 1, 0, 0};
        for (int what = 0; what <= 3; what++) Cases.due(due[what], x.setting(what));
        Cases.each(BAD, Cases.outside(0, 3), x::setting);
    }

    static void p6EyeMayBeAsLowAsBad() {
        MendedTube x = new MendedTube();
        x.let(2, -1);
        Cases.due(-1, x.setting(2));
        x.let(2, -9);
        Cases.due(-9, x.setting(2));
    }

    private static void lets(int what, int least, int greatest) {
        MendedTube x = new MendedTube();
        x.let(what, greatest);
        for (int v : new int[] {least, greatest}) {
            Cases.due("another one", 1, x.let(what, v));
            Cases.due("the same", 0, x.let(what, v));
            for (int other = 0; other < 4; other++) {
                Cases.due("setting " + other, other == what ? v : new int[] {0, 1, 0, 0}[other], x.setting(other));
            }
        }
        Cases.each(BAD, Cases.outside(least, greatest), v -> x.let(what, v));
        Cases.due("refused", greatest, x.setting(what));
    }

    static void p7HeatFrom0To9() {
        lets(0, 0, 9);
    }

    static void p7GapFrom1To3() {
        lets(1, 1, 3);
    }

    static void p7EyeFromMinus9To9() {
        lets(2, -9, 9);
    }

    static void p7LimitFrom0To999() {
        lets(3, 0, 999);
    }

    static void p7TheSameAsAtFirst() {
        MendedTube x = new MendedTube();
        int[] first = {0, 1, 0, 0};
        for (int what = 0; what < 4; what++) Cases.due(0, x.let(what, first[what]));
    }

    static void p7WhatFrom0To3() {
        MendedTube x = new MendedTube();
        Cases.each(BAD, Cases.outside(0, 3), what -> x.let(what, 1));
    }

    public static void main(String[] args) throws Exception {
        Cases.run(EdgeLensTest.class, 1, 7);
    }
}
