/** Promises 1 to 7. */
public final class LensTest {
    private static final Due DUE = new Due("LensTest");

    private static void promise1New() {
        MendedTube x = new MendedTube();
        for (int what = 0; what <= 6; what++) DUE.is("1 many(" + what + ")", 0, x.many(what));
        DUE.is("1 HEAT", 0, x.setting(0));
        DUE.is("1 GAP", 1, x.setting(1));
        DUE.is("1 EYE", 0, x.setting(2));
        DUE.is("1 LIMIT", 0, x.setting(3));
        DUE.is("1 z", 1, x.seed(0));
        DUE.is("1 kept", -3, x.again());
        for (int i = 0; i < 4; i++) {
            DUE.is("1 SHEET", -11, x.item(i, 0, 0));
            DUE.is("1 SHELF", -11, x.taken(i, 0));
        }
        x.lens(1, 0, 0, 1);
        DUE.is("1 of another object", 0, new MendedTube().many(0));
    }

    private static void promise2Lens() {
        MendedTube x = new MendedTube();
        int[][] bad = {{0, 0, 0, 1}, {6, 0, 0, 1}, {1, -10, 0, 1}, {1, 10, 0, 1}, {1, 0, -10, 1}, {1, 0, 10, 1},
            {1, 0, 0, 0}, {1, 0, 0, 1000}, {Integer.MIN_VALUE, 0, 0, 1}, {1, Integer.MAX_VALUE, 0, 1}};
        for (int[] b : bad) DUE.is("2 wrong number", -1, x.lens(b[0], b[1], b[2], b[3]));
        DUE.is("2 refused", 0, x.many(0));
        DUE.is("2 least", 0, x.lens(1, -9, -9, 1));
        DUE.is("2 greatest", 1, x.lens(5, 9, 9, 999));
        for (int l = 2; l < 9; l++) DUE.is("2 number", l, x.lens(2, 0, 0, 5));
        DUE.is("2 tenth", -2, x.lens(2, 0, 0, 5));
        DUE.is("2 BAD ahead of FULL", -1, x.lens(0, 0, 0, 5));
        DUE.is("2 how many", 9, x.many(0));
    }

    private static void promise3LensOf() {
        MendedTube x = new MendedTube();
        x.lens(3, -4, 7, 321);
        DUE.is("3 KIND", 3, x.lensOf(0, 0));
        DUE.is("3 BEND", -4, x.lensOf(0, 1));
        DUE.is("3 TILT", 7, x.lensOf(0, 2));
        DUE.is("3 PRICE", 321, x.lensOf(0, 3));
        DUE.is("3 STRENGTH", -5, x.lensOf(0, 4));
        DUE.is("3 no PLACE", -9, x.lensOf(0, 5));
        DUE.is("3 another what", -1, x.lensOf(0, 6));
        DUE.is("3 another what", -1, x.lensOf(0, -1));
        DUE.is("3 no LENS", -1, x.lensOf(1, 0));
        DUE.is("3 no LENS", -1, x.lensOf(-1, 0));
        x.lens(1, 3, 0, 1);
        x.fit(1, 0);
        x.fit(0, 0);
        DUE.is("3 PLACE", 1, x.lensOf(0, 5));
        int[][] strengths = {{1, 3, 0, 1}, {1, -3, 0, -1}, {1, 9, 9, 4}, {2, 3, 4, 7}, {2, 9, 4, 9}, {2, -9, 0, -9},
            {3, 3, 4, 6}, {3, 9, 1, 9}, {3, -9, 0, -9}, {4, 3, 9, 6}, {4, 5, 0, 9}, {4, -5, 0, -9}, {5, 3, 9, -6},
            {5, 9, 0, -9}, {5, -9, 0, 9}, {3, 0, 0, -1}};
        for (int[] s : strengths) {
            x.remake(0, s[0]);
            x.grind(0, 1, s[1]);
            x.let(0, s[2]);
            DUE.is("3 STRENGTH of KIND " + s[0] + ", BEND " + s[1] + " by HEAT " + s[2], s[3], x.lensOf(0, 4));
        }
    }

    private static void promise4Grind() {
        MendedTube x = new MendedTube();
        x.lens(2, 1, 2, 3);
        for (int what = 1; what <= 3; what++) {
            int greatest = what == 3 ? 999 : 9;
            int least = what == 3 ? 1 : -9;
            DUE.is("4 another one", 1, x.grind(0, what, greatest));
            DUE.is("4 the same", 0, x.grind(0, what, greatest));
            DUE.is("4 too great", -1, x.grind(0, what, greatest + 1));
            DUE.is("4 too small", -1, x.grind(0, what, least - 1));
            DUE.is("4 greatest", greatest, x.lensOf(0, what));
            DUE.is("4 another one", 1, x.grind(0, what, least));
            DUE.is("4 least", least, x.lensOf(0, what));
        }
        DUE.is("4 KIND is not ground", -1, x.grind(0, 0, 1));
        DUE.is("4 another what", -1, x.grind(0, 4, 1));
        DUE.is("4 no LENS", -1, x.grind(1, 1, 1));
        DUE.is("4 no LENS", -1, x.grind(-1, 1, 1));
    }

    private static void promise5Remake() {
        MendedTube x = new MendedTube();
        x.lens(2, 1, 2, 3);
        DUE.is("5 was", 2, x.remake(0, 5));
        DUE.is("5 was", 5, x.remake(0, 1));
        DUE.is("5 KIND", 1, x.lensOf(0, 0));
        DUE.is("5 BEND stays", 1, x.lensOf(0, 1));
        DUE.is("5 no such KIND", -1, x.remake(0, 0));
        DUE.is("5 no such KIND", -1, x.remake(0, 6));
        DUE.is("5 no LENS", -1, x.remake(1, 2));
        DUE.is("5 no LENS", -1, x.remake(-1, 2));
        DUE.is("5 refused", 1, x.lensOf(0, 0));
    }

    private static void promises6And7Settings() {
        MendedTube x = new MendedTube();
        int[][] ends = {{0, 9}, {1, 3}, {-9, 9}, {0, 999}};
        for (int what = 0; what < 4; what++) {
            for (int v : ends[what]) {
                DUE.is("7 another one", x.setting(what) == v ? 0 : 1, x.let(what, v));
                DUE.is("7 the same", 0, x.let(what, v));
                DUE.is("6 setting", v, x.setting(what));
            }
            DUE.is("7 too small", -1, x.let(what, ends[what][0] - 1));
            DUE.is("7 too great", -1, x.let(what, ends[what][1] + 1));
            DUE.is("6 refused", ends[what][1], x.setting(what));
        }
        for (int what : new int[] {-1, 4, Integer.MAX_VALUE, Integer.MIN_VALUE}) {
            DUE.is("6 no such", -1, x.setting(what));
            DUE.is("7 no such", -1, x.let(what, 1));
        }
    }

    public static void main(String[] args) {
        promise1New();
        promise2Lens();
        promise3LensOf();
        promise4Grind();
        promise5Remake();
        promises6And7Settings();
        DUE.end();
    }
}
