/** Promises 25 to 33. Of two that only push, by a and b, SEEN of 0 is 3a + 2b; of three 4a + 3b + 2c; BLUR is 1. */
public final class HeapTest {
    private static final Due DUE = new Due("HeapTest");

    private static void promises25And26Least() {
        MendedTube x = new MendedTube();
        for (int n = 1; n <= 3; n++) {
            DUE.is("25 no LENSES", -3, x.least(n));
            DUE.is("26 no LENSES", -3, x.pick(n, 0));
        }
        x = Cases.pushing(4, 3, -2);
        x.fit(1, 2);
        for (int n : new int[] {0, 4, -1, Integer.MAX_VALUE}) {
            DUE.is("25 n", -1, x.least(n));
            DUE.is("26 n", -1, x.pick(n, 0));
        }
        for (int n = 1; n <= 3; n++) {
            DUE.is("26 i", -1, x.pick(n, n));
            DUE.is("26 i", -1, x.pick(n, -1));
            DUE.is("25 without a push", 1, x.least(n));
        }
        DUE.is("26 the first that does not push", 1, x.pick(1, 0));
        DUE.is("26 FIRST of 2", 1, x.pick(2, 0));
        DUE.is("26 FIRST of 2", 11, x.pick(2, 1));
        int[] first = {1, 11, 21};
        for (int i = 0; i < 3; i++) DUE.is("26 FIRST of 3 at PLACE " + i, first[i], x.pick(3, i));
        x.lens(4, 0, -6, 1);
        DUE.is("26 FIRST of 2: 12 - 12", 0, x.pick(2, 0));
        DUE.is("26 FIRST of 2", 30, x.pick(2, 1));
        x.lens(2, -9, 0, 1);
        x.let(0, 9);
        x.let(2, 1);
        DUE.is("25 by EYE", 0, x.least(1));
        DUE.is("26 by EYE", 1, x.pick(1, 0));
        DUE.is("25 too few", -3, Cases.pushing(1, 2).least(3));
        DUE.is("26 too few", -3, Cases.pushing(1, 2).pick(3, 2));
        DUE.is("25 nothing changes", 1, x.many(2));
    }

    private static void promise27Good() {
        MendedTube x = Cases.pushing(2, 0);
        for (int n : new int[] {0, 4, -1}) DUE.is("27 n", -1, x.good(n));
        DUE.is("27 none", 0, x.good(1));
        x.let(3, 1);
        DUE.is("27 two TURNS of the first, all of the other", 6, x.good(1));
        DUE.is("27 both orders, two of four TURNS", 16, x.good(2));
        DUE.is("27 too few LENSES", 0, x.good(3));
        x.let(3, 999);
        DUE.is("27 all of 1", 8, x.good(1));
        DUE.is("27 all of 2", 32, x.good(2));
        x = Cases.pushing(1, 2, 3, 4, 5, 6, 7, 8, 9);
        x.let(3, 999);
        DUE.is("27 all of 3", 9 * 8 * 7 * 64, x.good(3));
    }

    /** By STRENGTHS alone, GAP 1, EYE 0. */
    private static int blurOfTwo(int s, int t) {
        int slope = -s;
        int height = 1 + slope;
        slope -= t * height;
        height += slope;
        return Math.abs(height + slope);
    }

    private static void promises28And29Match() {
        MendedTube x = new MendedTube();
        DUE.is("28 no LENSES", 0, x.pairs());
        DUE.is("29 no LENSES", -1, x.mate(0));
        x = Cases.pushing(1, 1, 1, 1, 1);
        DUE.is("28 none MENDED", 0, x.pairs());
        DUE.is("29 none", -3, x.mate(0));
        x.let(3, 1);
        DUE.is("28 all MENDED", 2, x.pairs());
        int[] mates = {1, 0, 3, 2, -3};
        for (int l = 0; l < 5; l++) DUE.is("29 of " + l, mates[l], x.mate(l));
        DUE.is("29 no LENS", -1, x.mate(5));
        DUE.is("29 no LENS", -1, x.mate(-1));
        x.let(3, 0);
        DUE.is("29 asked first", -3, x.mate(0));
        DUE.is("28 none MENDED any more", 0, x.pairs());
        x = Cases.pushing(1, 1, 1, 1, 1, 1, 1, 1, 1);
        x.let(3, 1);
        DUE.is("29 of nine", 6, x.mate(7));
        DUE.is("29 the ninth", -3, x.mate(8));
        DUE.is("28 of nine", 4, x.pairs());
        int[] bends = {0, 1, -2, 3, 0, 4};
        x = new MendedTube();
        for (int b : bends) x.lens(2, b, 0, 1);
        for (int limit = 39; limit >= 0; limit--) {
            x.let(3, limit);
            int most = -1;
            int first = 0;
            for (int code = 0; code < 1000000; code++) {
                int pairs = pairsOf(code, bends, limit);
                if (pairs > most) {
                    most = pairs;
                    first = code;
                }
            }
            DUE.is("28 by LIMIT " + limit, most, x.pairs());
            for (int l = 5; l >= 0; l--) {
                DUE.is("29 of " + l + " by LIMIT " + limit, first % 10 == 9 ? -3 : first % 10, x.mate(l));
                first /= 10;
            }
        }
    }

    /** Partners of 0 to 5 as a number's digits; -2: that is no matching. */
    private static int pairsOf(int code, int[] bends, int limit) {
        int[] partner = new int[6];
        int left = code;
        for (int l = 5; l >= 0; l--) {
            partner[l] = left % 10;
            left /= 10;
        }
        int pairs = 0;
        for (int l = 0; l < 6; l++) {
            int m = partner[l];
            if (m == 9) continue;
            if (m > 5 || m == l || partner[m] != l) return -2;
            if (Math.min(blurOfTwo(bends[l], bends[m]), blurOfTwo(bends[m], bends[l])) > limit) return -2;
            pairs++;
        }
        return pairs / 2;
    }

    private static void promises30And31Years() {
        MendedTube x = new MendedTube();
        DUE.is("30 none", 0, x.years());
        DUE.is("31 none", -3, x.turned(1));
        x.let(2, -1);
        x.let(3, 2);
        DUE.is("30 EYES -1 to 3", 5, x.years());
        DUE.is("31 the last YEAR", 4, x.turned(4));
        DUE.is("31 behind it", -3, x.turned(5));
        x.let(2, -7);
        x.let(3, 8);
        DUE.is("30 9 at most", 21, x.years());
        DUE.is("31 YEAR 20", 4, x.turned(20));
        for (int year : new int[] {0, 21, -1, Integer.MIN_VALUE}) DUE.is("31 no such YEAR", -1, x.turned(year));
        x = Cases.pushing(1);
        x.fit(0, 1);
        x.let(3, 2);
        DUE.is("30 one LENS", 4, x.years());
        DUE.is("31 turned", 0, x.turned(1));
        DUE.is("31 turned", 0, x.turned(2));
        DUE.is("31 turned no more", 4, x.turned(3));
        DUE.is("31 not till then", -3, x.turned(4));
        DUE.is("30 nothing changes", 1, x.place(0, 1));
        DUE.is("30 nothing changes", 0, x.setting(2));
        x = Cases.pushing(9, 9);
        x.fit(0, 1);
        x.fit(1, 0);
        x.let(2, -2);
        x.let(3, 3);
        DUE.is("30 wrong in YEAR 0", 0, x.years());
        x.turn(1, 1);
        DUE.is("30 two LENSES", 7, x.years());
        DUE.is("31 none may push, so none is turned", 4, x.turned(1));
        Cases.tell(x, "twin if eye = 1 more 3;");
        DUE.is("30 THE RULES ask by the EYE of the YEAR", 3, x.years());
        x = Cases.pushing(2, 3);
        x.fit(0, 0);
        x.fit(1, 2);
        x.let(3, 4);
        DUE.is("30 6 - 6, then EYE 1", 6, x.years());
        int[] ways = twoThatPush(6);
        for (int year = 1; year < 6; year++) DUE.is("31 YEAR " + year, ways[year], x.turned(year));
        x = Cases.pushing(9, 9, 9, 9);
        for (int l = 0; l < 4; l++) x.fit(l, 2 * l % 4 + 1);
        x.let(3, 1);
        DUE.is("30 full", 3, x.years());
        DUE.is("31 full", 4, x.turned(1));
        x = Cases.pushing(9, 9);
        x.fit(0, 0);
        x.fit(1, 1);
        x.let(3, 3);
        x.grind(0, 2, 0);
        x.grind(1, 2, 0);
        DUE.is("31 the least PLACE", 0, x.turned(2));
    }

    /** LENSES that push by 2 (TURN 0 now) and by 3 (TURN 2): all ways are tried, the first of the longest is answered. */
    private static int[] twoThatPush(int years) {
        int[] push = {1, 0, -1, 0};
        int all = 1;
        for (int year = 1; year < years; year++) all *= 3;
        for (int way = 0; way < all; way++) {
            int[] turned = new int[years];
            int left = way;
            for (int year = years - 1; year > 0; year--) {
                turned[year] = left % 3;
                left /= 3;
            }
            int[] turns = {0, 2};
            boolean lasts = true;
            for (int year = 0; year < years; year++) {
                if (year > 0 && turned[year] < 2) turns[turned[year]]++;
                int a = 2 * push[turns[0] % 4];
                int b = 3 * push[turns[1] % 4];
                int slope = a + b;
                int height = 2 * a + b;
                int seen = height + slope - year * height;
                lasts &= Math.abs(seen) + Math.abs(1 - year) <= 4;
            }
            for (int year = 1; year < years; year++) if (turned[year] == 2) turned[year] = 4;
            if (lasts) return turned;
        }
        return new int[years];
    }

    private static void promises32And33Game() {
        MendedTube x = new MendedTube();
        for (int n : new int[] {0, 4, -1}) {
            DUE.is("32 n", -1, x.game(n));
            DUE.is("33 n", -1, x.play(n));
        }
        DUE.is("32 no LENS, not MENDED", 0, x.game(1));
        x.let(3, 1);
        DUE.is("32 no LENS, MENDED", 1, x.game(3));
        DUE.is("33 no LENS", -3, x.play(3));
        x = Cases.pushing(2, 2, 2);
        x.let(3, 1);
        DUE.is("32 by TURN 1", 1, x.game(1));
        DUE.is("33 by TURN 1", 1, x.play(1));
        DUE.is("32 the other one pushes", 0, x.game(2));
        DUE.is("33 all are as bad", 0, x.play(2));
        DUE.is("32 it can't mend that", 0, x.game(3));
        x.let(3, 3);
        DUE.is("32 it can mend that", 1, x.game(3));
        DUE.is("33 by TURN 1", 1, x.play(3));
        x.fit(1, 1);
        DUE.is("32 two more", 0, x.game(2));
        DUE.is("33 not that in THE TUBE", 1, x.play(1));
        x.fit(0, 1);
        DUE.is("33 the one LENS left", 21, x.play(1));
        DUE.is("32 one LENS is left", 1, x.game(3));
        x.grind(2, 2, 9);
        x.turn(0, 0);
        x.turn(1, 0);
        DUE.is("32 the LENS that is left can't mend it", 0, x.game(3));
        x.take(1);
        x.take(0);
        DUE.is("33 those taken out can be put again", 1, x.play(1));
        x = Cases.pushing(0, 2);
        x.let(3, 1);
        DUE.is("32 no LENS twice", 1, x.game(2));
        DUE.is("33 no LENS twice", 11, x.play(2));
        x = Cases.pushing(2, 3);
        x.let(3, 1);
        x.fit(0, 0);
        DUE.is("33 by TURN 2: 6 - 6", 12, x.play(1));
        x = Cases.pushing(9, 8, 7, 6, 5, 4, 3, 2, 1);
        x.let(3, 1);
        x.fit(8, 2);
        DUE.is("32 none of nine mends 4: 3a + 2b", 0, x.game(1));
        DUE.is("33 none of nine mends 3", 0, x.play(1));
        x = Cases.pushing(0, 0, 0, 0, 9);
        x.let(3, 1);
        for (int l = 0; l < 3; l++) x.fit(l, 0);
        DUE.is("32 one PLACE is left", 1, x.game(2));
        DUE.is("33 one PLACE is left", 30, x.play(2));
        x.fit(4, 0);
        DUE.is("32 full, not MENDED", 0, x.game(2));
        DUE.is("33 full", -3, x.play(2));
        x.turn(3, 1);
        DUE.is("32 full, MENDED", 1, x.game(2));
        DUE.is("33 full", -3, x.play(2));
        DUE.is("32 nothing changes", 4, x.many(2));
    }

    public static void main(String[] args) {
        promises25And26Least();
        promise27Good();
        promises28And29Match();
        promises30And31Years();
        promises32And33Game();
        DUE.end();
    }
}
