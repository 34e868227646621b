import java.util.ArrayList;
import java.util.List;
import java.util.function.ToIntFunction;

/**
 * "Such a call changes nothing" and "what is asked changes nothing": behind each call all that can be asked of the object
 * is asked, and of another one that was made likewise, but without that call.
 */
public final class UnchangedTest {
    private static final int BAD = -1, FULL = -2, NONE = -3, STATE = -4;

    private enum Made {
        EMPTY, SOME, FULL
    }

    private static MendedTube made(Made how) {
        switch (how) {
            case SOME: return some();
            case FULL: return full();
            default: return new MendedTube();
        }
    }

    /** Something of all there is; what is kept is something else than what is now. */
    private static MendedTube some() {
        MendedTube x = new MendedTube();
        for (int kind = 1; kind <= 5; kind++) x.lens(kind, kind - 3, 3 - kind, 10 * kind);
        x.let(0, 2);
        x.let(3, 7);
        Cases.tell(x, "warm if heat > 1 more 2;");
        x.fit(4, 1);
        x.fit(0, 2);
        x.report(1, 0);
        x.seed(77);
        x.keep();
        x.grind(0, 1, 4);
        x.let(3, 40);
        Cases.tell(x, "twin less 1;lens if number = 2 more 3;");
        x.fit(2, 0);
        x.report(0, 1);
        x.seed(-5);
        int[] sorts = {0, 1, 3};
        for (int s = 0; s < 3; s++) {
            x.sheet(s, sorts[s], 3);
            for (int i = 0; i < 3; i++) x.write(s, i, 10 * i - 1);
        }
        x.shelf(0, 0, 4);
        x.shelf(1, 1, 0);
        x.shelf(2, 0, 2);
        x.prove(4);
        x.alterRow(1, 1, 99);
        x.act(2, 3, 7);
        Cases.feed(x, "lens les");
        return x;
    }

    /** As many of all as can be. */
    private static MendedTube full() {
        MendedTube x = new MendedTube();
        for (int l = 0; l < 9; l++) x.lens(1 + l % 5, l - 4, 4 - l, 999 - l);
        int[] settings = {9, 3, -9, 999};
        for (int what = 0; what < 4; what++) x.let(what, settings[what]);
        Cases.tell(x, "twin less 1;".repeat(7) + "lens less 2;");
        for (int l = 0; l < 4; l++) x.fit(8 - l, l);
        for (int r = 0; r < 6; r++) x.report(r % 4, r % 2);
        x.seed(Integer.MIN_VALUE);
        x.keep();
        for (int s = 0; s < 4; s++) {
            x.sheet(s, s == 1 ? 0 : s, 40);
            for (int i : new int[] {0, 1, 38, 39}) x.write(s, i, 40 * s + i);
            x.shelf(s, 0, 8 - s);
        }
        x.prove(-9);
        x.act(0, 3, 7);
        Cases.feed(x, "lens less 1 ;" + " ".repeat(187));
        return x;
    }

    /** All that can be asked, the TAPE by its text, what is kept by again(). */
    private static List<Integer> all(MendedTube x) {
        List<Integer> all = new ArrayList<>();
        for (int what = 0; what <= 6; what++) all.add(x.many(what));
        bench(x, all);
        for (int k = 0; k < x.many(4); k++) for (int what = 0; what < 3; what++) all.add(x.row(k, what));
        for (int i = 0; i < x.many(6); i++) all.add(x.trace(i));
        for (int s = 0; s < 4; s++) {
            for (int sort = 0; sort <= 4; sort++) for (int i : new int[] {0, 1, 2, 38, 39}) all.add(x.item(s, sort, i));
            all.add(x.taken(s, 0));
            all.add(x.taken(s, 10));
        }
        if (x.many(5) <= 196) Cases.feed(x, "s 1;");
        all.add(x.rules());
        for (int l = 0; l < x.many(0); l++) all.add(x.lensOf(l, 4));
        all.add(x.again());
        bench(x, all);
        return all;
    }

    private static void bench(MendedTube x, List<Integer> all) {
        for (int l = 0; l < x.many(0); l++) for (int what = 0; what <= 5; what++) all.add(x.lensOf(l, what));
        for (int what = 0; what < 4; what++) all.add(x.setting(what));
        for (int p = 0; p < x.many(2); p++) for (int what = 0; what < 2; what++) all.add(x.place(p, what));
        all.add(x.wrong());
        all.add(x.span(0));
        all.add(x.span(1));
        all.add(x.liar());
        all.add(x.draw());
        all.add(x.seed(x.forget()));
    }

    private static int firstDifference(List<Integer> one, List<Integer> other) {
        for (int i = 0; i < Math.min(one.size(), other.size()); i++) if (!one.get(i).equals(other.get(i))) return i;
        return one.size() == other.size() ? -1 : Math.min(one.size(), other.size());
    }

    private static void unchanged(Made how, String call, MendedTube x) {
        Cases.due(call + " changes something of " + how + ", at", -1, firstDifference(all(made(how)), all(x)));
    }

    private static void refused(Made how, int due, String call, ToIntFunction<MendedTube> asked) {
        MendedTube x = made(how);
        Cases.due(call + " of " + how, due, asked.applyAsInt(x));
        unchanged(how, call, x);
    }

    private static void bad(String call, ToIntFunction<MendedTube> asked) {
        for (Made how : Made.values()) refused(how, BAD, call, asked);
    }

    static void p1TheThreeAreNotAlike() {
        Cases.due(1, firstDifference(all(new MendedTube()), all(some())) < 0 ? 0 : 1);
        Cases.due(-1, firstDifference(all(some()), all(some())));
        Cases.due(-1, firstDifference(all(full()), all(full())));
    }

    static void p2RefusedLens() {
        bad("lens, KIND", x -> x.lens(0, 0, 0, 1));
        bad("lens, BEND", x -> x.lens(1, 10, 0, 1));
        bad("lens, TILT", x -> x.lens(1, 0, -10, 1));
        bad("lens, PRICE", x -> x.lens(1, 0, 0, 0));
        refused(Made.FULL, FULL, "lens", x -> x.lens(1, 0, 0, 1));
    }

    static void p4RefusedGrind() {
        bad("grind, LENS", x -> x.grind(9, 1, 1));
        bad("grind, LENS", x -> x.grind(-1, 1, 1));
        bad("grind, what", x -> x.grind(0, 0, 1));
        bad("grind, what", x -> x.grind(0, 4, 1));
        bad("grind, BEND", x -> x.grind(0, 1, 10));
        bad("grind, TILT", x -> x.grind(0, 2, -10));
        bad("grind, PRICE", x -> x.grind(0, 3, 1000));
    }

    static void p5RefusedRemake() {
        bad("remake, LENS", x -> x.remake(9, 1));
        bad("remake, KIND", x -> x.remake(0, 0));
        bad("remake, KIND", x -> x.remake(0, 6));
    }

    static void p7RefusedLet() {
        bad("let, what", x -> x.let(4, 1));
        bad("let, what", x -> x.let(-1, 1));
        bad("let, HEAT", x -> x.let(0, 10));
        bad("let, GAP", x -> x.let(1, 0));
        bad("let, EYE", x -> x.let(2, -10));
        bad("let, LIMIT", x -> x.let(3, 1000));
    }

    static void p8RefusedFeed() {
        bad("feed, n", x -> x.feed(-1L, 0));
        bad("feed, n", x -> x.feed(-1L, 9));
        refused(Made.FULL, FULL, "feed", x -> x.feed(-1L, 1));
        refused(Made.FULL, FULL, "feed", x -> x.feed(-1L, 8));
    }

    /** But that THE TAPE is used up. */
    static void p9RefusedRules() {
        MendedTube x = some();
        x.rules();
        MendedTube y = some();
        y.rules();
        Cases.feed(y, "lens more 3;lens flat x");
        Cases.due(-100 - 22, y.rules());
        Cases.due(-1, firstDifference(all(x), all(y)));
    }

    static void p15RefusedFit() {
        bad("fit, LENS", x -> x.fit(9, 0));
        bad("fit, LENS", x -> x.fit(-1, 0));
        bad("fit, TURN", x -> x.fit(1, 4));
        refused(Made.SOME, STATE, "fit", x -> x.fit(4, 0));
        refused(Made.FULL, FULL, "fit", x -> x.fit(0, 0));
        refused(Made.FULL, FULL, "fit of one that is there", x -> x.fit(8, 0));
    }

    static void p16RefusedTake() {
        bad("take", x -> x.take(4));
        bad("take", x -> x.take(-1));
        refused(Made.EMPTY, BAD, "take", x -> x.take(0));
        refused(Made.SOME, BAD, "take", x -> x.take(3));
    }

    static void p18RefusedTurn() {
        bad("turn, PLACE", x -> x.turn(4, 1));
        bad("turn, TURN", x -> x.turn(0, 4));
        bad("turn, TURN", x -> x.turn(0, -1));
        refused(Made.SOME, BAD, "turn, PLACE", x -> x.turn(3, 1));
    }

    static void p19RefusedExchange() {
        bad("exchange", x -> x.exchange(0, 4));
        bad("exchange", x -> x.exchange(-1, 0));
        bad("exchange", x -> x.exchange(4, 4));
        refused(Made.SOME, BAD, "exchange", x -> x.exchange(0, 3));
        refused(Made.SOME, 0, "exchange of one with itself", x -> x.exchange(1, 1));
    }

    static void p34RefusedReport() {
        bad("report, PLACE", x -> x.report(4, 1));
        bad("report, PLACE", x -> x.report(-1, 1));
        bad("report, was", x -> x.report(0, 2));
        refused(Made.FULL, FULL, "report", x -> x.report(0, 1));
    }

    static void p39RefusedDraw() {
        refused(Made.EMPTY, NONE, "draw", MendedTube::draw);
    }

    static void p41RefusedProve() {
        bad("prove", x -> x.prove(10));
        bad("prove", x -> x.prove(-10));
    }

    static void p43RefusedAlterRow() {
        for (Made how : Made.values()) {
            refused(how, 0, "alterRow", x -> x.alterRow(6, 1, 55));
            refused(how, 0, "alterRow", x -> x.alterRow(-1, 1, 55));
            refused(how, 0, "alterRow", x -> x.alterRow(1, 3, 55));
            refused(how, 0, "alterRow", x -> x.alterRow(1, -1, 55));
        }
        refused(Made.SOME, 0, "alterRow", x -> x.alterRow(5, 0, 55));
    }

    static void p45RefusedSheet() {
        bad("sheet, SHEET", x -> x.sheet(4, 0, 1));
        bad("sheet, SHEET", x -> x.sheet(-1, -1, 1));
        bad("sheet, sort", x -> x.sheet(0, 5, 1));
        bad("sheet, sort", x -> x.sheet(0, -2, 1));
        bad("sheet, n", x -> x.sheet(0, 0, 41));
        for (Made how : Made.values()) refused(how, -14, "sheet, n", x -> x.sheet(0, 0, -1));
    }

    static void p46RefusedWrite() {
        bad("write, SHEET", x -> x.write(4, 0, 55));
        bad("write, SHEET", x -> x.write(-1, 0, 55));
        refused(Made.EMPTY, -11, "write", x -> x.write(0, 0, 55));
        refused(Made.SOME, -11, "write", x -> x.write(3, 0, 55));
        refused(Made.SOME, -12, "write", x -> x.write(0, 3, 55));
        refused(Made.FULL, -12, "write", x -> x.write(0, 40, 55));
        refused(Made.FULL, -12, "write", x -> x.write(0, -1, 55));
    }

    static void p48RefusedFits() {
        bad("fits, SHEET", x -> x.fits(4, 0, 1));
        bad("fits, n", x -> x.fits(0, 0, 21));
        bad("fits, n", x -> x.fits(0, 0, -1));
        refused(Made.EMPTY, -11, "fits", x -> x.fits(0, 0, 1));
        refused(Made.SOME, -13, "fits", x -> x.fits(1, 0, 1));
        refused(Made.SOME, -11, "fits", x -> x.fits(3, 0, 1));
        refused(Made.SOME, -12, "fits", x -> x.fits(0, 3, 1));
        refused(Made.SOME, -12, "fits", x -> x.fits(0, -1, 3));
        refused(Made.FULL, -12, "fits", x -> x.fits(0, 40, 20));
    }

    static void p50RefusedShelf() {
        bad("shelf, SHELF", x -> x.shelf(4, 2, 0));
        bad("shelf, what", x -> x.shelf(0, 3, 0));
        bad("shelf, what", x -> x.shelf(0, -1, 0));
        bad("shelf, LENS", x -> x.shelf(0, 0, 9));
        bad("shelf, LENS", x -> x.shelf(0, 0, -1));
        bad("shelf, SHEET", x -> x.shelf(0, 1, 4));
    }

    static void p56RefusedAgain() {
        refused(Made.EMPTY, NONE, "again", MendedTube::again);
    }

    private static void asked(String call, ToIntFunction<MendedTube> asked) {
        for (Made how : Made.values()) {
            MendedTube x = made(how);
            int first = asked.applyAsInt(x);
            Cases.due(call + " of " + how + ", asked again", first, asked.applyAsInt(x));
            unchanged(how, call, x);
        }
    }

    static void p3WhatIsAskedOfALens() {
        for (int what = -1; what <= 6; what++) {
            int w = what;
            asked("lensOf(0, " + w + ")", x -> x.lensOf(0, w));
            asked("lensOf(9, " + w + ")", x -> x.lensOf(9, w));
        }
        asked("setting", x -> x.setting(2));
        asked("setting", x -> x.setting(4));
    }

    static void p10WhatIsAskedOfRays() {
        asked("seen", x -> x.seen(-9));
        asked("seen", x -> x.seen(10));
        asked("shift", MendedTube::shift);
        asked("blur", MendedTube::blur);
        asked("wrong", MendedTube::wrong);
        asked("mended", MendedTube::mended);
    }

    static void p17WhatIsAskedOfTheTube() {
        asked("place", x -> x.place(0, 0));
        asked("place", x -> x.place(4, 1));
        asked("price", MendedTube::price);
        asked("fix", MendedTube::fix);
        asked("change", MendedTube::change);
        asked("heatFor", MendedTube::heatFor);
        asked("eyes", MendedTube::eyes);
    }

    static void p25WhatIsAskedOfTheHeap() {
        for (int n = 0; n <= 4; n++) {
            int of = n;
            asked("least(" + n + ")", x -> x.least(of));
            asked("pick(" + n + ", 0)", x -> x.pick(of, 0));
            asked("good(" + n + ")", x -> x.good(of));
        }
        asked("pairs", MendedTube::pairs);
        for (int l : new int[] {-1, 0, 4, 8, 9}) asked("mate(" + l + ")", x -> x.mate(l));
        asked("years", MendedTube::years);
        for (int year : new int[] {0, 1, 5, 20, 21}) asked("turned(" + year + ")", x -> x.turned(year));
    }

    static void p32WhatIsAskedOfGamesAndReports() {
        for (int n = 0; n <= 4; n++) {
            int of = n;
            asked("game(" + n + ")", x -> x.game(of));
            asked("play(" + n + ")", x -> x.play(of));
            asked("span(" + (n - 1) + ")", x -> x.span(of - 1));
        }
        asked("liar", MendedTube::liar);
        for (int n : new int[] {0, 1, 7, 60, 61}) asked("often(" + n + ")", x -> x.often(n));
    }

    static void p42WhatIsAskedOfRows() {
        for (int k : new int[] {-1, 0, 3, 6}) asked("row(" + k + ", 1)", x -> x.row(k, 1));
        asked("row, what", x -> x.row(0, 3));
        asked("judge", MendedTube::judge);
    }

    static void p47WhatIsAskedOfTheHost() {
        for (int sort = -1; sort <= 5; sort++) {
            int as = sort;
            asked("item(0, " + sort + ", 0)", x -> x.item(0, as, 0));
            asked("item(3, " + sort + ", 40)", x -> x.item(3, as, 40));
        }
        for (int s = -1; s <= 4; s++) {
            int sheet = s;
            asked("spread(" + s + ", 0, 1)", x -> x.spread(sheet, 0, 1));
            asked("spread(" + s + ", 0, 20)", x -> x.spread(sheet, 0, 20));
            asked("spread(" + s + ", 39, 2)", x -> x.spread(sheet, 39, 2));
            asked("spread(" + s + ", 0, 0)", x -> x.spread(sheet, 0, 0));
            for (int as : new int[] {-1, 0, 5, 9, 10, 14, 15}) asked("taken(" + s + ", " + as + ")", x -> x.taken(sheet, as));
        }
        for (int i : new int[] {-1, 0, 6, 7}) asked("trace(" + i + ")", x -> x.trace(i));
        for (int what = -1; what <= 7; what++) {
            int w = what;
            asked("many(" + what + ")", x -> x.many(w));
        }
    }

    /** An ACT changes THE TRACE alone: behind one of no SHELF there is none. */
    static void p52AnActChangesTheTraceAlone() {
        for (Made how : Made.values()) {
            for (int act = -1; act <= 4; act++) {
                MendedTube x = made(how);
                MendedTube y = made(how);
                x.act(0, act, 1000);
                x.act(4, 0, 0);
                y.act(4, 0, 0);
                Cases.due("act(0, " + act + ", 1000) of " + how, -1, firstDifference(all(y), all(x)));
            }
        }
    }

    /** keep() changes nothing but what is kept: again() behind it is as if it had not been. */
    static void p55KeepThenAgain() {
        for (Made how : Made.values()) {
            MendedTube x = made(how);
            x.keep();
            Cases.due(x.many(0), x.again());
            List<Integer> now = new ArrayList<>();
            bench(x, now);
            List<Integer> due = new ArrayList<>();
            bench(made(how), due);
            Cases.due("" + how, -1, firstDifference(due, now));
        }
    }

    public static void main(String[] args) throws Exception {
        Cases.run(UnchangedTest.class);
    }
}
