/** Promises 10 to 24. */
public final class TubeTest {
    private static final Due DUE = new Due("TubeTest");

    private static void rays(MendedTube x, String how, int at0, int at1) {
        DUE.is("10 SEEN of 0, " + how, at0, x.seen(0));
        for (int height = -9; height <= 9; height++) {
            DUE.is("10 SEEN of " + height + ", " + how, at0 + height * (at1 - at0), x.seen(height));
        }
        int shift = Math.abs(at0);
        int blur = Math.abs(at1 - at0);
        DUE.is("11 SHIFT, " + how, shift, x.shift());
        DUE.is("12 BLUR, " + how, blur, x.blur());
        DUE.is("13 WRONG, " + how, shift + blur, x.wrong());
        x.let(3, shift + blur);
        DUE.is("14 MENDED, " + how, 1, x.mended());
        if (shift + blur > 0) {
            x.let(3, shift + blur - 1);
            DUE.is("14 not MENDED, " + how, 0, x.mended());
        }
    }

    /** STRENGTH 1, TILT 2: behind the LENS a RAY has SLOPE 2 - h and HEIGHT 2. */
    private static void promises10To14Rays() {
        MendedTube x = new MendedTube();
        rays(x, "empty", 0, 1);
        x.let(2, 5);
        rays(x, "empty, EYE 5", 0, -4);
        x.let(2, 0);
        x.lens(2, 1, 2, 1);
        x.fit(0, 0);
        rays(x, "TURN 0", 4, 3);
        x.turn(0, 1);
        rays(x, "TURN 1", 0, -1);
        x.turn(0, 2);
        rays(x, "TURN 2", -4, -5);
        x.turn(0, 3);
        rays(x, "TURN 3", 0, -1);
        x.turn(0, 0);
        x.let(1, 2);
        rays(x, "GAP 2", 8, 5);
        x.let(1, 1);
        x.let(2, 3);
        rays(x, "EYE 3", -2, -3);
        x.let(0, 1);
        rays(x, "HEAT 1", -2, -2);
        x.let(0, 0);
        x.let(2, 0);
        x.turn(0, 2);
        DUE.is("11 SHIFT, asked first", 4, x.shift());
        x.let(2, -1);
        DUE.is("12 BLUR, asked first", 1, x.blur());
        x.let(0, 1);
        DUE.is("12 BLUR, asked first", 4, x.blur());
        x.let(0, 0);
        x.let(2, 0);
        x.let(1, 2);
        DUE.is("13 WRONG, asked first", 11, x.wrong());
        x.let(3, 4);
        x.turn(0, 1);
        DUE.is("14 MENDED, asked first", 1, x.mended());
        DUE.is("10 too high", -1, x.seen(10));
        DUE.is("10 too low", -1, x.seen(-10));
    }

    private static void promise15Fit() {
        MendedTube x = Cases.pushing(1, 1, 1, 1, 1);
        DUE.is("15 no LENS", -1, x.fit(5, 0));
        DUE.is("15 no LENS", -1, x.fit(-1, 0));
        DUE.is("15 no TURN", -1, x.fit(0, 4));
        DUE.is("15 no TURN", -1, x.fit(0, -1));
        DUE.is("15 PLACE", 0, x.fit(3, 3));
        DUE.is("15 there", -4, x.fit(3, 0));
        DUE.is("15 BAD ahead of STATE", -1, x.fit(3, 4));
        DUE.is("15 PLACE", 1, x.fit(0, 0));
        DUE.is("15 PLACE", 2, x.fit(1, 1));
        DUE.is("15 PLACE", 3, x.fit(2, 2));
        DUE.is("15 full", -2, x.fit(4, 0));
        DUE.is("15 FULL ahead of STATE", -2, x.fit(3, 0));
        DUE.is("15 how many", 4, x.many(2));
    }

    private static void promises16To20Places() {
        MendedTube x = new MendedTube();
        for (int l = 0; l < 4; l++) x.lens(1, 0, 0, l == 0 ? 1 : 100 * l);
        DUE.is("20 PRICE of none", 0, x.price());
        for (int l = 3; l >= 0; l--) x.fit(l, l);
        DUE.is("20 PRICES", 601, x.price());
        for (int p = 0; p < 4; p++) {
            DUE.is("17 LENS", 3 - p, x.place(p, 0));
            DUE.is("17 TURN", 3 - p, x.place(p, 1));
        }
        DUE.is("16 no PLACE", -1, x.take(4));
        DUE.is("16 no PLACE", -1, x.take(-1));
        DUE.is("16 taken out", 2, x.take(1));
        DUE.is("16 closed up", 1, x.place(1, 0));
        DUE.is("16 closed up, TURN", 1, x.place(1, 1));
        DUE.is("16 closed up", 0, x.place(2, 0));
        DUE.is("16 how many", 3, x.many(2));
        DUE.is("16 it is free", 3, x.fit(2, 0));
        DUE.is("17 no PLACE", -1, x.place(4, 0));
        DUE.is("17 no PLACE", -1, x.place(-1, 0));
        DUE.is("17 another what", -1, x.place(0, 2));
        DUE.is("17 another what", -1, x.place(0, -1));
        DUE.is("18 TURN was", 3, x.turn(0, 1));
        DUE.is("18 TURN was", 1, x.turn(0, 0));
        DUE.is("18 no TURN", -1, x.turn(0, 4));
        DUE.is("18 no TURN", -1, x.turn(0, -1));
        DUE.is("18 no PLACE", -1, x.turn(4, 0));
        DUE.is("18 no PLACE", -1, x.turn(-1, 0));
        DUE.is("19 exchanged", 1, x.exchange(0, 1));
        DUE.is("19 LENS", 1, x.place(0, 0));
        DUE.is("19 TURN", 1, x.place(0, 1));
        DUE.is("19 LENS", 3, x.place(1, 0));
        DUE.is("19 TURN", 0, x.place(1, 1));
        DUE.is("19 one and the same", 0, x.exchange(2, 2));
        for (int p : new int[] {-1, 4}) {
            DUE.is("19 no PLACE", -1, x.exchange(p, 0));
            DUE.is("19 no PLACE", -1, x.exchange(0, p));
            DUE.is("19 no PLACE", -1, x.exchange(p, p));
        }
    }

    /** Of two that only push, by a and b, SEEN of 0 is 3a + 2b; of three 4a + 3b + 2c; BLUR is 1. */
    private static void promise21Fix() {
        MendedTube x = Cases.pushing(2, 2);
        DUE.is("21 empty", -3, x.fix());
        x.fit(0, 0);
        x.fit(1, 0);
        DUE.is("21 as good at both PLACES", 2, x.fix());
        x.grind(1, 2, 1);
        DUE.is("21 as good by TURN 1 and 3", 1, x.fix());
        x.grind(0, 2, 0);
        x.grind(1, 2, 3);
        DUE.is("21 at PLACE 1", 11, x.fix());
        x.turn(0, 1);
        x.turn(1, 1);
        DUE.is("21 least now", -3, x.fix());
        x.turn(1, 3);
        DUE.is("21 least now, by another TURN", -3, x.fix());
        DUE.is("21 nothing changes", 3, x.place(1, 1));
    }

    private static void promise22Change() {
        MendedTube x = Cases.pushing(-3, 2);
        x.fit(0, 0);
        DUE.is("22 one LENS", -3, x.change());
        x.fit(1, 0);
        DUE.is("22 both", 1, x.change());
        x.exchange(0, 1);
        DUE.is("22 least now", -3, x.change());
        x = Cases.pushing(3, 2, 1);
        for (int l = 0; l < 3; l++) x.fit(l, 0);
        DUE.is("22 the ends", 2, x.change());
        x.turn(0, 1);
        DUE.is("22 with their TURNS", 12, x.change());
        x = Cases.pushing(7, -1, -9);
        for (int l = 0; l < 3; l++) x.fit(l, 0);
        DUE.is("22 as good as 1 and 2", 1, x.change());
        DUE.is("22 nothing changes", 0, x.place(0, 0));
    }

    /** Of four that only push SEEN of 0 is 5a + 4b + 3c + 2d. */
    private static void promises21And22Full() {
        MendedTube x = Cases.pushing(2, 0, 1, 9);
        for (int l = 0; l < 4; l++) x.fit(l, 0);
        DUE.is("21 full: 31 becomes 5", 32, x.fix());
        DUE.is("22 full: 31 becomes 29, as by 0 and 2", 1, x.change());
        x = Cases.pushing(9, 0, 1, 2);
        for (int l = 0; l < 4; l++) x.fit(l, 0);
        DUE.is("22 full: 52 becomes 31", 3, x.change());
        x.turn(0, 1);
        x.turn(3, 2);
        x.exchange(0, 1);
        DUE.is("22 full: 3 - 4 becomes 4 - 4", 12, x.change());
        x.grind(3, 2, 4);
        DUE.is("22 full: 3 - 8 becomes 5 - 8", 2, x.change());
    }

    /** STRENGTH s alone, GAP 1, EYE 0: WRONG is the size of 1 - 2s. */
    private static void promise23HeatFor() {
        MendedTube x = new MendedTube();
        x.lens(2, -3, 0, 1);
        x.fit(0, 0);
        x.let(0, 9);
        DUE.is("23 never", -3, x.heatFor());
        x.let(3, 1);
        DUE.is("23 least", 3, x.heatFor());
        x.let(3, 7);
        DUE.is("23 0 will do", 0, x.heatFor());
        x.grind(0, 1, -9);
        x.let(3, 3);
        DUE.is("23 without RULES", 8, x.heatFor());
        x.let(3, 1);
        DUE.is("23 the greatest", 9, x.heatFor());
        x.let(3, 3);
        Cases.tell(x, "lens if heat = 2 more 9;");
        DUE.is("23 by THE RULES", 2, x.heatFor());
        DUE.is("23 nothing changes", 9, x.setting(0));
    }

    private static void promise24Eyes() {
        MendedTube x = new MendedTube();
        DUE.is("24 one", 1, x.eyes());
        x.let(3, 3);
        DUE.is("24 some", 7, x.eyes());
        x.let(3, 999);
        DUE.is("24 all", 19, x.eyes());
        x.let(3, 0);
        x.lens(4, 1, 0, 1);
        x.fit(0, 0);
        DUE.is("24 EYE 3", 1, x.eyes());
        Cases.tell(x, "twin if eye = 3 flat;");
        DUE.is("24 by THE RULES", 0, x.eyes());
        DUE.is("24 nothing changes", 0, x.setting(2));
    }

    public static void main(String[] args) {
        promises10To14Rays();
        promise15Fit();
        promises16To20Places();
        promise21Fix();
        promise22Change();
        promises21And22Full();
        promise23HeatFor();
        promise24Eyes();
        DUE.end();
    }
}
