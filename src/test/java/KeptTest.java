/** Promises 55 and 56. */
public final class KeptTest {
    private static final Due DUE = new Due("KeptTest");

    private static MendedTube full() {
        MendedTube x = new MendedTube();
        x.lens(2, 3, 4, 50);
        x.lens(4, 1, -1, 60);
        for (int what = 0; what < 4; what++) x.let(what, 3);
        Cases.tell(x, "twin more 1;");
        x.fit(1, 2);
        x.fit(0, 1);
        x.report(1, 0);
        x.seed(99);
        return x;
    }

    private static void isAsFull(String when, MendedTube x) {
        int[][] lenses = {{2, 3, 4, 50, 6, 1}, {4, 1, -1, 60, 4, 0}};
        for (int l = 0; l < 2; l++) {
            for (int what = 0; what < 6; what++) DUE.is("55 LENS, " + when, lenses[l][what], x.lensOf(l, what));
        }
        for (int what = 0; what < 4; what++) DUE.is("55 setting, " + when, 3, x.setting(what));
        int[] many = {2, 1, 2, 1};
        for (int what = 0; what < 4; what++) DUE.is("55 many, " + when, many[what], x.many(what));
        DUE.is("55 TURN, " + when, 2, x.place(0, 1));
        DUE.is("55 TURN, " + when, 1, x.place(1, 1));
        DUE.is("55 REPORTS, " + when, full().span(0), x.span(0));
        DUE.is("55 z, " + when, 99, x.seed(99));
    }

    private static void spoil(MendedTube x) {
        x.take(0);
        x.turn(0, 3);
        for (int what = 0; what < 4; what++) x.let(what, 1);
        x.grind(0, 1, -3);
        x.grind(0, 2, -4);
        x.grind(1, 3, 61);
        x.remake(1, 5);
        x.lens(1, 1, 1, 1);
        x.rules();
        x.forget();
        x.report(2, 1);
        x.report(0, 1);
        x.seed(5);
    }

    public static void main(String[] args) {
        MendedTube x = full();
        DUE.is("56 nothing is kept", -3, x.again());
        isAsFull("refused", x);
        DUE.is("55 kept", 1, x.keep());
        isAsFull("kept", x);
        for (int time = 1; time <= 2; time++) {
            spoil(x);
            x.feed(0, 3 + time);
            x.prove(time);
            x.sheet(0, 2, time);
            x.shelf(0, 1, 0);
            x.shelf(1, 0, 0);
            x.act(1, 0, 7);
            DUE.is("56 how many LENSES", 2, x.again());
            isAsFull("again, time " + time, x);
            DUE.is("56 THE TAPE stays", 3 + time, x.many(5));
            DUE.is("56 ROWS stay", 3, x.many(4));
            DUE.is("56 ROWS stay", time, x.row(0, 1));
            DUE.is("56 SHEETS stay", -12, x.item(0, 2, time));
            DUE.is("56 SHELVES stay", time, x.taken(0, 12));
            DUE.is("56 THE TRACE stays", 10, x.trace(0));
            x.rules();
            DUE.is("56 a faulty TAPE", 1, x.many(1));
        }
        spoil(x);
        DUE.is("55 what was kept latest", 1, x.keep());
        x.lens(1, 1, 1, 1);
        DUE.is("56 what was kept latest", 3, x.again());
        DUE.is("56 what was kept latest", 5, x.seed(5));
        MendedTube empty = new MendedTube();
        empty.keep();
        empty.lens(1, 1, 1, 1);
        DUE.is("56 no LENSES", 0, empty.again());
        DUE.end();
    }
}
