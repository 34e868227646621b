/** Promises 45 to 54. */
public final class HostTest {
    private static final Due DUE = new Due("HostTest");

    private static void promise45Sheet() {
        MendedTube x = new MendedTube();
        for (int s : new int[] {-1, 4}) DUE.is("45 no SHEET", -1, x.sheet(s, 0, 1));
        for (int sort : new int[] {-2, 5}) DUE.is("45 no sort", -1, x.sheet(0, sort, 1));
        DUE.is("45 n above 40", -1, x.sheet(0, 0, 41));
        DUE.is("45 below 0", -14, x.sheet(0, 0, -1));
        DUE.is("45 BAD ahead of -14", -1, x.sheet(0, 5, -1));
        DUE.is("45 refused", -11, x.item(0, 0, 0));
        for (int sort = 0; sort <= 4; sort++) {
            DUE.is("45 becomes", 1, x.sheet(1, sort, 40));
            for (int i = 0; i < 40; i++) DUE.is("45 all 0", 0, x.item(1, sort, i));
            DUE.is("45 outside", -12, x.item(1, sort, 40));
            x.write(1, 0, 1);
        }
        DUE.is("45 none", 1, x.sheet(1, 2, 0));
        DUE.is("45 no items", -12, x.item(1, 2, 0));
        DUE.is("45 refused", -14, x.sheet(1, 0, Integer.MIN_VALUE));
        DUE.is("45 stays", -12, x.item(1, 2, 0));
        DUE.is("45 missing, whatever n", 1, x.sheet(1, -1, -7));
        DUE.is("45 missing", -11, x.item(1, 2, 0));
        DUE.is("45 missing, whatever n", 1, x.sheet(1, -1, 41));
        DUE.is("45 no SHEET", -1, x.sheet(4, -1, 0));
    }

    private static void promises46And47Items() {
        MendedTube x = new MendedTube();
        for (int s : new int[] {-1, 4}) {
            DUE.is("46 no SHEET", -1, x.write(s, 0, 1));
            DUE.is("47 no SHEET", -1, x.item(s, 0, 0));
        }
        DUE.is("46 missing", -11, x.write(3, 0, 1));
        DUE.is("47 missing", -11, x.item(3, 4, 0));
        DUE.is("47 no sort", -1, x.item(3, 5, 0));
        DUE.is("47 no sort", -1, x.item(3, -1, 0));
        int[] values = {0, 1, -1, 127, 128, 255, 256, -129, 32767, 32768, -32769, 65536, Integer.MAX_VALUE, Integer.MIN_VALUE};
        for (int sort = 0; sort <= 4; sort++) {
            x.sheet(3, sort, 3);
            for (int v : values) {
                int[] due = {(byte) v, (short) v, v, v, v == 0 ? 0 : 1};
                DUE.is("46 written", 1, x.write(3, 1, v));
                DUE.is("47 " + v + " of sort " + sort, due[sort], x.item(3, sort, 1));
            }
            DUE.is("47 another item", 0, x.item(3, sort, 0));
            for (int i : new int[] {-1, 3, Integer.MAX_VALUE}) {
                DUE.is("46 outside", -12, x.write(3, i, 1));
                DUE.is("47 outside", -12, x.item(3, sort, i));
            }
            for (int as = 0; as <= 4; as++) {
                if (as != sort) DUE.is("47 taken for another sort, outside, too", -13, x.item(3, as, 9));
            }
        }
    }

    private static void promise48Fits() {
        MendedTube x = Cases.pushing(1, 1, 1, 1, 1, 1);
        for (int s : new int[] {-1, 4}) DUE.is("48 no SHEET", -1, x.fits(s, 0, 1));
        for (int n : new int[] {-1, 21}) DUE.is("48 n", -1, x.fits(0, 0, n));
        DUE.is("48 missing", -11, x.fits(0, 0, 1));
        for (int sort = 1; sort <= 4; sort++) {
            x.sheet(0, sort, 4);
            DUE.is("48 another sort", -13, x.fits(0, 0, 1));
        }
        x.sheet(0, 0, 40);
        int[] items = {5, 9, 5, -1, 0};
        for (int i = 0; i < 5; i++) x.write(0, i, items[i]);
        DUE.is("48 none", 0, x.fits(0, 0, 0));
        x.turn(0, 2);
        DUE.is("48 those that fit() refuses are left out", 2, x.fits(0, 0, 5));
        DUE.is("48 in their order", 5, x.place(0, 0));
        DUE.is("48 in their order", 0, x.place(1, 0));
        DUE.is("48 TURN 0", 0, x.place(1, 1));
        DUE.is("48 there already", 0, x.fits(0, 0, 20));
        x.write(0, 38, 3);
        x.write(0, 39, 4);
        DUE.is("48 from i on", 1, x.fits(0, 39, 1));
        DUE.is("48 outside at first", -12, x.fits(0, -1, 1));
        DUE.is("48 outside at last", -12, x.fits(0, 38, 3));
        DUE.is("48 what stood ahead was done", 3, x.place(3, 0));
        DUE.is("48 full", 0, x.fits(0, 38, 2));
        DUE.is("48 far outside", -12, x.fits(0, Integer.MAX_VALUE, 2));
        DUE.is("48 none, outside", 0, x.fits(0, 40, 0));
    }

    private static void promise49Spread() {
        MendedTube x = Cases.pushing(3);
        x.fit(0, 0);
        for (int s : new int[] {-1, 4}) DUE.is("49 no SHEET", -1, x.spread(s, 0, 1));
        for (int n : new int[] {0, 21}) DUE.is("49 n", -1, x.spread(0, 0, n));
        DUE.is("49 missing", -11, x.spread(0, 0, 1));
        for (int sort = 1; sort <= 4; sort++) {
            x.sheet(0, sort, 4);
            DUE.is("49 another sort", -13, x.spread(0, 0, 1));
        }
        x.sheet(0, 0, 6);
        int[] items = {4, -9, 9, 10, 2, -10};
        for (int i = 0; i < 6; i++) x.write(0, i, items[i]);
        DUE.is("49 one", 0, x.spread(0, 0, 1));
        DUE.is("49 two", 13, x.spread(0, 0, 2));
        DUE.is("49 three", 18, x.spread(0, 0, 3));
        DUE.is("49 too high", -4, x.spread(0, 0, 4));
        DUE.is("49 too low", -4, x.spread(0, 5, 1));
        DUE.is("49 by items: STATE is first", -4, x.spread(0, 2, 20));
        x.write(0, 5, 0);
        DUE.is("49 by items: outside is first", -12, x.spread(0, 4, 20));
        DUE.is("49 outside", -12, x.spread(0, -1, 5));
        DUE.is("49 far outside", -12, x.spread(0, Integer.MAX_VALUE, 5));
        x.grind(0, 1, 1);
        DUE.is("49 of SEEN, not of HEIGHTS: each SEEN is 3 - 3 times its HEIGHT", 39, x.spread(0, 0, 2));
    }

    private static void promises50And51Shelves() {
        MendedTube x = new MendedTube();
        for (int kind = 1; kind <= 5; kind++) x.lens(kind, 0, 0, 1);
        for (int s : new int[] {-1, 4}) {
            DUE.is("50 no SHELF", -1, x.shelf(s, 2, 0));
            DUE.is("51 no SHELF", -1, x.taken(s, 0));
        }
        for (int what : new int[] {-1, 3}) DUE.is("50 another what", -1, x.shelf(0, what, 0));
        for (int n : new int[] {-1, 5}) DUE.is("50 no LENS", -1, x.shelf(0, 0, n));
        for (int n : new int[] {-1, 4}) DUE.is("50 no SHEET", -1, x.shelf(0, 1, n));
        for (int as : new int[] {-1, 6, 9, 15, Integer.MIN_VALUE, Integer.MAX_VALUE}) DUE.is("51 no as", -1, x.taken(0, as));
        for (int as : new int[] {0, 5, 10, 14}) DUE.is("51 nothing", -11, x.taken(0, as));
        String[] above = {"", "01", "02", "023", "04", "045"};
        for (int kind = 1; kind <= 5; kind++) {
            DUE.is("50 a LENS", 1, x.shelf(3, 0, kind - 1));
            for (int as = 0; as <= 5; as++) {
                boolean is = above[kind].indexOf((char) ('0' + as)) >= 0;
                DUE.is("51 KIND " + kind + " for " + as, is ? kind - 1 : -13, x.taken(3, as));
            }
            for (int as = 10; as <= 14; as++) DUE.is("51 a LENS for a row", -13, x.taken(3, as));
        }
        for (int sort = 0; sort <= 4; sort++) {
            x.sheet(2, sort, 10 + sort);
            DUE.is("50 a row", 1, x.shelf(1, 1, 2));
            for (int as = 10; as <= 14; as++) {
                DUE.is("51 sort " + sort + " for " + as, as == sort + 10 ? 10 + sort : -13, x.taken(1, as));
            }
            for (int as = 0; as <= 5; as++) DUE.is("51 a row for a LENS", -13, x.taken(1, as));
        }
        x.sheet(2, 0, 3);
        DUE.is("51 the row that it was given", 14, x.taken(1, 14));
        x.sheet(2, -1, 0);
        DUE.is("51 the row that it was given", 14, x.taken(1, 14));
        DUE.is("50 a missing one", 1, x.shelf(1, 1, 2));
        DUE.is("51 nothing", -11, x.taken(1, 14));
        x.shelf(1, 0, 0);
        DUE.is("50 nothing, whatever n", 1, x.shelf(1, 2, -5));
        DUE.is("51 nothing", -11, x.taken(1, 0));
        MendedTube y = new MendedTube();
        y.keep();
        y.lens(3, 0, 0, 1);
        y.shelf(0, 0, 0);
        DUE.is("51 there", 0, y.taken(0, 2));
        y.again();
        DUE.is("51 not there at the time", -11, y.taken(0, 2));
        DUE.is("52 not there at the time", 0, y.act(0, 0, 5));
        y.lens(5, 0, 0, 1);
        DUE.is("51 another one of its number", 0, y.taken(0, 4));
    }

    private static void act(MendedTube x, int act, int v, int due, int... bodies) {
        DUE.is("52 act " + act + " of " + v, due, x.act(2, act, v));
        DUE.is("54 bodies", bodies.length, x.many(6));
        for (int i = 0; i < bodies.length; i++) DUE.is("53 body " + i, bodies[i], x.trace(i));
        DUE.is("53 none behind", -3, x.trace(bodies.length));
        DUE.is("53 none ahead", -3, x.trace(-1));
    }

    /** LENS 2 of BEND 5. */
    private static void promises52And53Acts() {
        MendedTube x = Cases.pushing(0, 0, 0);
        DUE.is("53 none yet", -3, x.trace(0));
        x.grind(2, 1, 5);
        x.shelf(2, 0, 2);
        x.remake(2, 1);
        act(x, 0, 7, 14, 20, 10);
        act(x, 1, 7, 28, 11, 20, 10);
        act(x, 2, 7, 2, 12);
        act(x, 3, 7, 30, 13, 11, 20, 10);
        x.remake(2, 2);
        act(x, 0, 7, 12, 10);
        act(x, 1, 7, 19, 30, 11, 10);
        act(x, 2, -7, -2, 12);
        act(x, 3, 7, 17, 13, 30, 11, 10);
        x.remake(2, 4);
        act(x, 0, Integer.MAX_VALUE, Integer.MIN_VALUE + 4, 10);
        act(x, 1, 7, 24, 11, 10);
        act(x, 2, 7, 4, 40, 12);
        act(x, 3, 7, 26, 13, 11, 10);
        x.remake(2, 3);
        act(x, 0, 7, 13, 50, 10);
        act(x, 1, 7, 21, 30, 11, 50, 10);
        act(x, 2, 7, 2, 12);
        act(x, 3, 7, 23, 51, 13, 30, 11, 50, 10, 12);
        x.remake(2, 5);
        act(x, 0, 7, 12, 10);
        act(x, 1, 7, -24, 60, 11, 10);
        act(x, 2, 7, -3, 61, 40, 12, 10);
        act(x, 3, 7, -22, 13, 60, 11, 10);
        x.remake(2, 3);
        x.grind(2, 1, 3);
        act(x, 3, 7, 19, 51, 13, 30, 11, 50, 10, 12);
        x.grind(2, 1, 1);
        x.remake(2, 1);
        act(x, 2, Integer.MIN_VALUE, Integer.MIN_VALUE, 12);
        x.grind(2, 1, 2);
        act(x, 2, 7, -15, 12);
        x.remake(2, 5);
        act(x, 2, 7, -15, 61, 40, 12);
        act(x, 0, -17, -15, 10);
        x.remake(2, 3);
        act(x, 3, 7, -15, 51, 13, 30, 11, 50, 10, 12);
        Cases.tell(x, "lens flat;");
        act(x, 0, 7, 10, 50, 10);
        for (int act : new int[] {-1, 4}) nothing(x, 2, act);
        for (int shelf : new int[] {-1, 4, 0}) nothing(x, shelf, 0);
        x.sheet(0, 0, 5);
        x.shelf(1, 1, 0);
        nothing(x, 1, 0);
    }

    private static void nothing(MendedTube x, int shelf, int act) {
        x.act(2, 0, 7);
        DUE.is("52 nothing to act", 0, x.act(shelf, act, 7));
        DUE.is("53 no TRACE", -3, x.trace(0));
        DUE.is("54 no TRACE", 0, x.many(6));
    }

    private static void promise54Many() {
        MendedTube x = Cases.pushing(1, 1, 1);
        x.fit(0, 0);
        x.fit(1, 0);
        Cases.tell(x, "lens flat;");
        for (int r = 0; r < 5; r++) x.report(0, 0);
        x.prove(0);
        x.feed(0, 6);
        x.shelf(0, 0, 0);
        x.remake(0, 3);
        x.act(0, 3, 0);
        int[] due = {3, 1, 2, 5, 4, 6, 7};
        for (int what = 0; what < 7; what++) DUE.is("54 many " + what, due[what], x.many(what));
        DUE.is("54 another what", -1, x.many(7));
        DUE.is("54 another what", -1, x.many(-1));
    }

    public static void main(String[] args) {
        promise45Sheet();
        promises46And47Items();
        promise48Fits();
        promise49Spread();
        promises50And51Shelves();
        promises52And53Acts();
        promise54Many();
        DUE.end();
    }
}
