/** What promises 55 and 56 say of nothing kept, of the empty and the full state, of what is not kept. */
public final class EdgeKeptTest {
    private static final int NONE = -3;

    static void p56NothingIsKept() {
        MendedTube x = Cases.fitted(Cases.pushing(1, 2));
        x.let(0, 5);
        Cases.due(NONE, x.again());
        Cases.due("nothing changes", 2, x.many(0));
        Cases.due("nothing changes", 2, x.many(2));
        Cases.due("nothing changes", 5, x.setting(0));
        Cases.due(NONE, x.again());
    }

    static void p55Answers1EachTime() {
        MendedTube x = new MendedTube();
        for (int i = 0; i < 3; i++) Cases.due(1, x.keep());
        x.lens(1, 0, 0, 1);
        Cases.due(1, x.keep());
    }

    static void p55TheEmptyState() {
        MendedTube x = new MendedTube();
        x.keep();
        for (int l = 0; l < 9; l++) x.lens(1, 9, 9, 9);
        for (int l = 0; l < 4; l++) x.fit(l, 1);
        for (int r = 0; r < 6; r++) x.report(0, 1);
        for (int what = 0; what < 4; what++) x.let(what, 3);
        Cases.tell(x, "lens flat;");
        x.seed(5);
        Cases.due("no LENSES", 0, x.again());
        for (int what = 0; what < 4; what++) Cases.due("many " + what, 0, x.many(what));
        int[] settings = {0, 1, 0, 0};
        for (int what = 0; what < 4; what++) Cases.due("setting " + what, settings[what], x.setting(what));
        Cases.due("z", 1, x.seed(1));
        Cases.due("LENSES come from 0 on", 0, x.lens(2, 5, 0, 1));
        Cases.due("THE RULES are gone", 5, x.lensOf(0, 4));
        Cases.due("all FIT", 19, x.span(0));
    }

    static void p55TheFullState() {
        MendedTube x = new MendedTube();
        for (int l = 0; l < 9; l++) x.lens(2, l - 4, 4 - l, 100 + l);
        for (int p = 0; p < 4; p++) x.fit(8 - p, p);
        for (int r = 0; r < 6; r++) x.report(r % 4, 0);
        int[] settings = {9, 3, -9, 999};
        for (int what = 0; what < 4; what++) x.let(what, settings[what]);
        Cases.tell(x, "twin flat;".repeat(7) + "lens less 9;");
        x.seed(Integer.MIN_VALUE);
        int wrong = x.wrong();
        int fit = x.span(0);
        x.keep();
        for (int p = 0; p < 4; p++) x.take(0);
        for (int l = 0; l < 9; l++) {
            x.remake(l, 1);
            x.grind(l, 1, 9);
            x.grind(l, 2, 9);
            x.grind(l, 3, 9);
        }
        for (int what = 0; what < 4; what++) x.let(what, 1);
        x.rules();
        x.forget();
        x.seed(0);
        Cases.due(9, x.again());
        for (int l = 0; l < 9; l++) {
            int[] due = {2, l - 4, 4 - l, 100 + l, Math.max(-9, Math.min(9, l - 4)), l > 4 ? 8 - l : -9};
            for (int what = 0; what <= 5; what++) Cases.due("LENS " + l + ", " + what, due[what], x.lensOf(l, what));
        }
        for (int p = 0; p < 4; p++) Cases.due("TURN", p, x.place(p, 1));
        for (int what = 0; what < 4; what++) Cases.due("setting", settings[what], x.setting(what));
        int[] many = {9, 8, 4, 6};
        for (int what = 0; what < 4; what++) Cases.due("many", many[what], x.many(what));
        Cases.due(wrong, x.wrong());
        Cases.due(fit, x.span(0));
        Cases.due("z", Integer.MIN_VALUE, x.seed(0));
    }

    /** By LIMIT 1 the TUBE is MENDED by BENDS 0 and 1 alone. */
    static void p55SixReports() {
        for (int last = 0; last <= 1; last++) {
            MendedTube x = Cases.fitted(Cases.pushing(0));
            x.let(3, 1);
            for (int r = 0; r < 5; r++) x.report(0, 1);
            x.report(0, last);
            x.keep();
            x.forget();
            for (int r = 0; r < 6; r++) x.report(last, 1);
            x.again();
            Cases.due("how many FIT by the sixth, " + last, 2 * last, x.span(0));
            Cases.due("LIAR by the sixth, " + last, last == 0 ? 5 : NONE, x.liar());
            x.forget();
            for (int r = 0; r < 6; r++) x.report(1, last);
            x.again();
            Cases.due("how many FIT by the sixth, " + last, 2 * last, x.span(0));
        }
    }

    static void p55NotTheTape() {
        MendedTube x = Cases.bending(5);
        Cases.feed(x, "lens ");
        x.keep();
        Cases.feed(x, "flat;");
        x.again();
        Cases.due(10, x.many(5));
        Cases.due(1, x.rules());
        x.again();
        Cases.due("used up", 0, x.many(5));
        Cases.due("THE RULES as they were kept", 5, x.lensOf(0, 4));
    }

    static void p55NotRows() {
        MendedTube x = Cases.fitted(Cases.pushing(1));
        x.prove(5);
        x.keep();
        x.take(0);
        x.prove(7);
        x.again();
        Cases.due(2, x.many(4));
        Cases.due(7, x.row(0, 1));
    }

    static void p55NotSheets() {
        MendedTube x = new MendedTube();
        x.sheet(0, 0, 3);
        x.keep();
        x.sheet(0, 2, 5);
        x.write(0, 4, 1000);
        x.sheet(1, 1, 1);
        x.again();
        Cases.due(1000, x.item(0, 2, 4));
        Cases.due(0, x.item(1, 1, 0));
    }

    static void p55NotShelves() {
        MendedTube x = Cases.pushing(1, 2);
        x.sheet(0, 0, 3);
        x.shelf(0, 0, 0);
        x.shelf(1, 0, 0);
        x.shelf(2, 1, 0);
        x.keep();
        x.shelf(0, 0, 1);
        x.shelf(1, 1, 0);
        x.shelf(2, 2, 0);
        x.again();
        Cases.due(1, x.taken(0, 0));
        Cases.due(3, x.taken(1, 10));
        Cases.due(-11, x.taken(2, 10));
    }

    static void p55NotTheTrace() {
        MendedTube x = Cases.pushing(1);
        x.shelf(0, 0, 0);
        x.keep();
        x.act(0, 3, 7);
        x.again();
        Cases.due(3, x.many(6));
        Cases.due(13, x.trace(0));
        x.keep();
        Cases.due(3, x.many(6));
        x.act(1, 0, 0);
        x.again();
        Cases.due(0, x.many(6));
    }

    static void p56TheLatestAlone() {
        MendedTube x = new MendedTube();
        for (int kept = 1; kept <= 9; kept++) {
            x.lens(1, 0, 0, 1);
            x.keep();
        }
        for (int i = 0; i < 2; i++) Cases.due("which stays", 9, x.again());
        x.let(0, 9);
        Cases.due(9, x.again());
        Cases.due(0, x.setting(0));
    }

    static void p56WhatIsDoneBehindIsNotKept() {
        MendedTube x = Cases.fitted(Cases.pushing(1, 2));
        x.keep();
        for (int i = 0; i < 2; i++) {
            x.grind(0, 2, 9);
            x.turn(1, 3);
            x.take(0);
            x.report(0, 0);
            Cases.due(2, x.again());
            Cases.due(1, x.lensOf(0, 2));
            Cases.due(0, x.place(0, 0));
            Cases.due(0, x.place(1, 1));
            Cases.due(0, x.many(3));
        }
    }

    static void p56WhatIsAskedIsNotKept() {
        MendedTube x = Cases.fitted(Cases.pushing(1, 2, 3));
        x.let(3, 30);
        x.keep();
        x.let(3, 3);
        x.fix();
        x.change();
        x.heatFor();
        x.eyes();
        x.years();
        x.often(60);
        x.span(0);
        Cases.due(3, x.again());
        Cases.due(30, x.setting(3));
        Cases.due(0, x.setting(0));
        Cases.due(0, x.setting(2));
        Cases.due("4 + 3 * 2 + 2 * 3", 16, x.shift());
    }

    public static void main(String[] args) throws Exception {
        Cases.run(EdgeKeptTest.class, 55, 56);
    }
}
