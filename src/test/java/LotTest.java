/** Promises 34 to 40. */
public final class LotTest {
    private static final Due DUE = new Due("LotTest");

    private static void promises34And35Reports() {
        MendedTube x = new MendedTube();
        for (int p : new int[] {-1, 4}) DUE.is("34 no PLACE", -1, x.report(p, 1));
        for (int was : new int[] {-1, 2}) DUE.is("34 neither 1 nor 0", -1, x.report(0, was));
        for (int r = 0; r < 6; r++) DUE.is("34 number", r, x.report(r % 4, r % 2));
        DUE.is("34 seventh", -2, x.report(0, 0));
        DUE.is("34 BAD ahead of FULL", -1, x.report(4, 0));
        DUE.is("34 how many", 6, x.many(3));
        DUE.is("35 were", 6, x.forget());
        DUE.is("35 none now", 0, x.many(3));
        DUE.is("35 were", 0, x.forget());
        DUE.is("34 from 0 again", 0, x.report(0, 0));
    }

    private static void spans(String how, MendedTube x, int count, int least, int greatest) {
        DUE.is("36 how many, " + how, count, x.span(0));
        DUE.is("36 least, " + how, least, x.span(1));
        DUE.is("36 greatest, " + how, greatest, x.span(2));
    }

    /** STRENGTH s alone, GAP 1, EYE 0: WRONG is the size of 1 - 2s. */
    private static void promises36And37Bends() {
        MendedTube x = new MendedTube();
        spans("no REPORTS", x, 19, 1, 19);
        DUE.is("36 another what", -1, x.span(3));
        DUE.is("36 another what", -1, x.span(-1));
        DUE.is("37 all FIT", -3, x.liar());
        x.lens(3, 9, 9, 1);
        x.fit(0, 0);
        x.let(3, 1);
        x.report(0, 1);
        spans("MENDED by LIMIT 1, without the LENS' own TILT and STRENGTH", x, 2, 10, 11);
        x.let(3, 7);
        spans("MENDED by LIMIT 7", x, 8, 7, 14);
        Cases.tell(x, "lens flat;");
        spans("THE RULES do not change a stranger's LENS", x, 8, 7, 14);
        x.forget();
        x.report(0, 0);
        spans("not MENDED by LIMIT 7", x, 11, 1, 19);
        DUE.is("37 some FIT", -3, x.liar());
        x.report(0, 1);
        spans("both", x, 0, -3, -3);
        DUE.is("37 the least of both", 0, x.liar());
        x.report(0, 1);
        DUE.is("37 the one against two", 0, x.liar());
        x.forget();
        x.report(0, 1);
        x.report(0, 0);
        x.report(0, 1);
        DUE.is("37 the one against two", 1, x.liar());
        x.report(0, 0);
        DUE.is("37 two against two", -3, x.liar());
        x.forget();
        x.report(0, 0);
        x.report(1, 0);
        spans("a PLACE without a LENS", x, 0, -3, -3);
        DUE.is("37 a PLACE without a LENS", 1, x.liar());
        x.report(2, 1);
        DUE.is("37 two PLACES without a LENS", -3, x.liar());
        DUE.is("37 nothing changes", 3, x.many(3));
        for (int r = 3; r < 6; r++) x.report(0, 0);
        DUE.is("37 six REPORTS", -3, x.liar());
        DUE.is("36 six REPORTS", 0, x.span(0));
        x = new MendedTube();
        x.report(3, 1);
        DUE.is("37 the one REPORT", 0, x.liar());
    }

    private static void promises38And39Draw() {
        MendedTube x = Cases.pushing(1, 1, 1, 1);
        DUE.is("38 was", 1, x.seed(7));
        DUE.is("39 empty", -3, x.draw());
        DUE.is("38 z stays", 7, x.seed(Integer.MIN_VALUE));
        DUE.is("38 below 0", Integer.MIN_VALUE, x.seed(1));
        for (int l = 0; l < 4; l++) x.fit(l, 3);
        int z = 1;
        int[] turns = {3, 3, 3, 3};
        for (int places = 4; places >= 1; places--) {
            for (int i = 0; i < 30; i++) {
                z = z * 1103515245 + 12345;
                int p = (z >>> 16) % places;
                turns[p] = (turns[p] + 1) % 4;
                DUE.is("39 PLACE of " + places, p, x.draw());
                for (int q = 0; q < places; q++) DUE.is("39 TURN", turns[q], x.place(q, 1));
            }
            x.take(places - 1);
        }
        DUE.is("38 z", z, x.seed(0));
    }

    private static void promise40Often() {
        MendedTube x = Cases.pushing(2);
        x.fit(0, 0);
        DUE.is("40 never", 0, x.often(60));
        x.let(3, 1);
        DUE.is("40 not by TURN 0 and 2", 2, x.often(4));
        DUE.is("40 by TURN 1 and 3", 3, x.often(5));
        DUE.is("40 one", 1, x.often(1));
        DUE.is("40 60", 30, x.often(60));
        DUE.is("40 too few", -1, x.often(0));
        DUE.is("40 too many", -1, x.often(61));
        DUE.is("40 nothing changes", 0, x.place(0, 1));
        DUE.is("40 nothing changes, z", 1, x.seed(1));
        x.take(0);
        DUE.is("40 nothing is turned", 0, x.often(3));
    }

    public static void main(String[] args) {
        promises34And35Reports();
        promises36And37Bends();
        promises38And39Draw();
        promise40Often();
        DUE.end();
    }
}
