/** What promises 45 to 54 say of bounds, of what is missing, of 0 and of 40 items, of numbers that wrap, of refusals. */
public final class EdgeHostTest {
    private static final int BAD = -1, NONE = -3, STATE = -4;
    private static final int NOTHING = -11, OUTSIDE = -12, OTHER = -13, BELOW = -14, BY_0 = -15;
    private static final int[] NO_SHEET = Cases.outside(0, 3);
    private static final int[] ENDS = {Integer.MIN_VALUE, Integer.MIN_VALUE + 1, -65536, -32769, -32768, -256, -129, -128, -1, 0,
        1, 127, 128, 255, 256, 32767, 32768, 65535, 65536, Integer.MAX_VALUE - 1, Integer.MAX_VALUE};

    // ---- 45: sheet

    static void p45SheetFrom0To3() {
        MendedTube x = new MendedTube();
        for (int s = 0; s <= 3; s++) Cases.due(1, x.sheet(s, 2, 10 + s));
        Cases.each(BAD, NO_SHEET, s -> x.sheet(s, 2, 1));
        Cases.each(BAD, NO_SHEET, s -> x.sheet(s, -1, 1));
        for (int s = 0; s <= 3; s++) {
            Cases.due("the last item", 0, x.item(s, 2, 9 + s));
            Cases.due("behind it", OUTSIDE, x.item(s, 2, 10 + s));
        }
    }

    static void p45SortFromMinus1To4() {
        MendedTube x = new MendedTube();
        for (int sort = -1; sort <= 4; sort++) {
            Cases.due(1, x.sheet(0, sort, 1));
            for (int as = 0; as <= 4; as++) Cases.due(sort < 0 ? NOTHING : as == sort ? 0 : OTHER, x.item(0, as, 0));
        }
        Cases.each(BAD, Cases.outside(-1, 4), sort -> x.sheet(0, sort, 1));
        Cases.due("it stays", 0, x.item(0, 4, 0));
    }

    static void p45NFrom0To40() {
        MendedTube x = new MendedTube();
        for (int sort = 0; sort <= 4; sort++) {
            for (int n : new int[] {0, 1, 39, 40}) {
                Cases.due(1, x.sheet(0, sort, n));
                if (n > 0) Cases.due("the last item", 0, x.item(0, sort, n - 1));
                Cases.due("behind it", OUTSIDE, x.item(0, sort, n));
            }
            for (int n : new int[] {41, 42, 255, 256, 65536, Integer.MAX_VALUE}) Cases.due(BAD, x.sheet(0, sort, n));
            for (int n : new int[] {-1, -2, -40, -256, -65536, Integer.MIN_VALUE}) Cases.due(BELOW, x.sheet(0, sort, n));
            Cases.due("it stays", OUTSIDE, x.item(0, sort, 40));
            Cases.due("it stays", 0, x.item(0, sort, 39));
        }
    }

    static void p45NCountsNothingForAMissingOne() {
        MendedTube x = new MendedTube();
        for (int n : new int[] {0, 41, -1, Integer.MIN_VALUE, Integer.MAX_VALUE}) {
            x.sheet(2, 0, 5);
            Cases.due(1, x.sheet(2, -1, n));
            Cases.due(NOTHING, x.item(2, 0, 0));
        }
    }

    static void p45BadAheadOfBelow0() {
        MendedTube x = new MendedTube();
        Cases.due("no SHEET", BAD, x.sheet(4, 0, -1));
        Cases.due("no SHEET", BAD, x.sheet(-1, 0, -1));
        Cases.due("no sort", BAD, x.sheet(0, 5, -1));
        Cases.due("no sort", BAD, x.sheet(0, -2, -1));
        Cases.due("no SHEET, n of a missing one", BAD, x.sheet(4, -1, -1));
    }

    static void p45AllZeroAnew() {
        MendedTube x = new MendedTube();
        for (int sort = 0; sort <= 4; sort++) {
            x.sheet(1, sort, 40);
            x.write(1, 0, 1);
            x.write(1, 39, 1);
            x.sheet(1, sort, 40);
            Cases.due(0, x.item(1, sort, 0));
            Cases.due(0, x.item(1, sort, 39));
        }
    }

    // ---- 46, 47: write, item

    static void p46NoSuchSheet() {
        MendedTube x = new MendedTube();
        for (int s = 0; s <= 3; s++) x.sheet(s, 2, 1);
        Cases.each(BAD, NO_SHEET, s -> x.write(s, 0, 7));
        for (int s = 0; s <= 3; s++) Cases.due(0, x.item(s, 2, 0));
    }

    static void p46MissingAheadOfOutside() {
        MendedTube x = new MendedTube();
        for (int s = 0; s <= 3; s++) {
            for (int i : new int[] {-1, 0, 40, Integer.MIN_VALUE, Integer.MAX_VALUE}) Cases.due(NOTHING, x.write(s, i, 1));
        }
    }

    static void p46BadAheadOfMissing() {
        Cases.each(BAD, NO_SHEET, s -> new MendedTube().write(s, -1, 1));
    }

    static void p46PlacesAtTheirEnds() {
        MendedTube x = new MendedTube();
        for (int n : new int[] {0, 1, 40}) {
            x.sheet(0, 2, n);
            for (int i = 0; i < n; i += 39) Cases.due(1, x.write(0, i, 5 + i));
            Cases.each(OUTSIDE, Cases.outside(0, n - 1), i -> x.write(0, i, 7));
            for (int i = 0; i < n; i += 39) Cases.due(5 + i, x.item(0, 2, i));
        }
    }

    private static void narrowed(int sort, int[] due) {
        MendedTube x = new MendedTube();
        x.sheet(3, sort, 3);
        for (int k = 0; k < ENDS.length; k++) {
            Cases.due(1, x.write(3, 1, ENDS[k]));
            Cases.due("of " + ENDS[k], due[k], x.item(3, sort, 1));
            Cases.due("ahead of it", 0, x.item(3, sort, 0));
            Cases.due("behind it", 0, x.item(3, sort, 2));
        }
    }

    static void p46NarrowedToBytes() {
        narrowed(0, new int[] {0, 1, 0, -1, 0, 0, 127, -128, -1, 0, 1, 127, -128, -1, 0, -1, 0, -1, 0, -2, -1});
    }

    static void p46NarrowedToShorts() {
        narrowed(1, new int[] {0, 1, 0, 32767, -32768, -256, -129, -128, -1, 0, 1, 127, 128, 255, 256, 32767, -32768, -1, 0, -2, -1});
    }

    static void p46IntsAsTheyAre() {
        narrowed(2, ENDS);
    }

    static void p47OfLongsTheLowest32Bits() {
        narrowed(3, ENDS);
    }

    static void p47OfBooleans1Or0() {
        int[] due = new int[ENDS.length];
        for (int k = 0; k < due.length; k++) due[k] = ENDS[k] == 0 ? 0 : 1;
        narrowed(4, due);
    }

    static void p47NoSuchSheetOrSort() {
        MendedTube x = new MendedTube();
        x.sheet(0, 0, 1);
        Cases.each(BAD, NO_SHEET, s -> x.item(s, 0, 0));
        Cases.each(BAD, Cases.outside(0, 4), sort -> x.item(0, sort, 0));
        Cases.due("a missing one is no sort", BAD, x.item(1, -1, 0));
    }

    static void p47TheFirstNamedOfSeveral() {
        MendedTube x = new MendedTube();
        x.sheet(0, 0, 2);
        Cases.due("BAD, -11", BAD, x.item(1, 5, 0));
        Cases.due("BAD, -12", BAD, x.item(0, 5, 9));
        Cases.due("BAD, -12", BAD, x.item(4, 0, -1));
        Cases.due("-13, -12", OTHER, x.item(0, 1, 2));
        Cases.due("-13, -12", OTHER, x.item(0, 4, Integer.MIN_VALUE));
        Cases.due("-11, -12", NOTHING, x.item(1, 0, -1));
        Cases.due("-11, -12, of any sort", NOTHING, x.item(1, 4, 99));
        Cases.due("-12", OUTSIDE, x.item(0, 0, 2));
    }

    static void p47TakenForAnotherSort() {
        MendedTube x = new MendedTube();
        for (int sort = 0; sort <= 4; sort++) {
            for (int n : new int[] {0, 40}) {
                x.sheet(2, sort, n);
                for (int as = 0; as <= 4; as++) {
                    Cases.due(sort + " for " + as, as != sort ? OTHER : n == 0 ? OUTSIDE : 0, x.item(2, as, 0));
                }
            }
        }
    }

    static void p47PlacesAtTheirEnds() {
        MendedTube x = new MendedTube();
        for (int n : new int[] {0, 1, 40}) {
            for (int sort = 0; sort <= 4; sort++) {
                int as = sort;
                x.sheet(0, sort, n);
                if (n > 0) Cases.due(0, x.item(0, sort, n - 1));
                Cases.each(OUTSIDE, Cases.outside(0, n - 1), i -> x.item(0, as, i));
            }
        }
    }

    static void p47AsLowAsTheRefusals() {
        MendedTube x = new MendedTube();
        x.sheet(0, 0, 1);
        for (int v : new int[] {-1, -11, -12, -13, -14, -15}) {
            x.write(0, 0, v);
            Cases.due(v, x.item(0, 0, 0));
        }
    }

    // ---- 48, 49: fits, spread

    /** SHEET 0: bytes, 40 at most. */
    private static MendedTube withBytes(MendedTube x, int n, int... items) {
        x.sheet(0, 0, n);
        for (int i = 0; i < items.length; i++) x.write(0, i, items[i]);
        return x;
    }

    static void p48NFrom0To20() {
        MendedTube x = withBytes(Cases.pushing(1, 1, 1), 40, 2, 1);
        Cases.due("none", 0, x.fits(0, 0, 0));
        Cases.due(0, x.many(2));
        Cases.due("20: LENS 0 comes, too", 3, x.fits(0, 0, 20));
        Cases.each(BAD, Cases.outside(0, 20), n -> x.fits(0, 0, n));
    }

    static void p48TheFirstNamedOfSeveral() {
        MendedTube x = Cases.pushing(1);
        x.sheet(0, 2, 3);
        x.sheet(2, 0, 3);
        Cases.each(BAD, NO_SHEET, s -> x.fits(s, 99, 21));
        Cases.due("BAD, -13", BAD, x.fits(0, 0, 21));
        Cases.due("BAD, -11", BAD, x.fits(1, 0, -1));
        Cases.due("BAD, -12", BAD, x.fits(2, 9, -1));
        Cases.due("-13, -12", OTHER, x.fits(0, 9, 1));
        Cases.due("-11, -12", NOTHING, x.fits(1, 9, 1));
        Cases.due("-12", OUTSIDE, x.fits(2, 3, 1));
        Cases.due("none came", 0, x.many(2));
    }

    static void p48TakenForBytes() {
        MendedTube x = Cases.pushing(1);
        for (int sort = 1; sort <= 4; sort++) {
            x.sheet(3, sort, 40);
            Cases.due(OTHER, x.fits(3, 0, 1));
            Cases.due("none of them", OTHER, x.fits(3, 0, 0));
        }
        x.sheet(3, -1, 0);
        Cases.due(NOTHING, x.fits(3, 0, 1));
        x.sheet(3, 0, 0);
        Cases.due(OUTSIDE, x.fits(3, 0, 1));
        Cases.due("none of none", 0, x.fits(3, 0, 0));
    }

    static void p48PlacesAtTheirEnds() {
        MendedTube x = withBytes(Cases.pushing(1), 40);
        Cases.each(OUTSIDE, Cases.outside(0, 39), i -> x.fits(0, i, 1));
        Cases.each(OUTSIDE, Cases.outside(0, 39), i -> x.fits(0, i, 20));
        Cases.due(0, x.many(2));
        x.fits(0, 39, 1);
        Cases.due("item 39 tells LENS 0", 1, x.many(2));
    }

    static void p48WhatStoodAheadWasDone() {
        MendedTube x = withBytes(Cases.pushing(1, 1, 1, 1, 1), 40);
        x.write(0, 38, 4);
        x.write(0, 39, 3);
        Cases.due("40 is outside", OUTSIDE, x.fits(0, 38, 20));
        Cases.due(2, x.many(2));
        Cases.due(4, x.place(0, 0));
        Cases.due(3, x.place(1, 0));
    }

    static void p48ThoseThatFitRefuses() {
        MendedTube x = withBytes(Cases.pushing(1, 1, 1, 1, 1), 10, -1, 5, -128, 127, 3, 3, 0, 1, 2, 4);
        Cases.due("no such LENS, there already, full", 4, x.fits(0, 0, 10));
        int[] due = {3, 0, 1, 2};
        for (int p = 0; p < 4; p++) {
            Cases.due(due[p], x.place(p, 0));
            Cases.due("TURN 0", 0, x.place(p, 1));
        }
        Cases.due("full: none", 0, x.fits(0, 0, 10));
        Cases.due("full: outside all the same", OUTSIDE, x.fits(0, 0, 11));
        Cases.due(4, x.many(2));
    }

    static void p48BytesAreNotMadeGreater() {
        MendedTube x = withBytes(Cases.pushing(1), 2, 256, 0);
        Cases.due("256 is narrowed to 0", 1, x.fits(0, 0, 1));
        x = withBytes(new MendedTube(), 1);
        Cases.due("no LENSES", 0, x.fits(0, 0, 1));
    }

    static void p49NFrom1To20() {
        MendedTube x = withBytes(new MendedTube(), 40, 1, 2, 3);
        Cases.due("one", 0, x.spread(0, 0, 1));
        Cases.due("20: 3 less 0", 3, x.spread(0, 0, 20));
        Cases.each(BAD, Cases.outside(1, 20), n -> x.spread(0, 0, n));
    }

    static void p49TheFirstNamedOfSeveral() {
        MendedTube x = new MendedTube();
        x.sheet(0, 2, 3);
        x.sheet(2, 0, 3);
        x.write(2, 2, 10);
        Cases.each(BAD, NO_SHEET, s -> x.spread(s, 99, 21));
        Cases.due("BAD, -13", BAD, x.spread(0, 0, 21));
        Cases.due("BAD, -11", BAD, x.spread(1, 0, 0));
        Cases.due("BAD, -12", BAD, x.spread(2, 9, 0));
        Cases.due("-13, -12", OTHER, x.spread(0, 9, 1));
        Cases.due("-11, -12", NOTHING, x.spread(1, 9, 1));
        Cases.due("by items: STATE of item 2, then -12 of item 3", STATE, x.spread(2, 1, 3));
        Cases.due("by items: -12 of item -1", OUTSIDE, x.spread(2, -1, 4));
        x.write(2, 2, 0);
        Cases.due("-12 of item 3", OUTSIDE, x.spread(2, 1, 3));
    }

    static void p49TakenForBytes() {
        MendedTube x = new MendedTube();
        for (int sort = 1; sort <= 4; sort++) {
            x.sheet(3, sort, 40);
            Cases.due(OTHER, x.spread(3, 0, 1));
        }
        x.sheet(3, -1, 0);
        Cases.due(NOTHING, x.spread(3, 0, 1));
        x.sheet(3, 0, 0);
        Cases.due(OUTSIDE, x.spread(3, 0, 1));
    }

    static void p49HeightsFromMinus9To9() {
        MendedTube x = withBytes(new MendedTube(), 2, -9, 9);
        Cases.due(18, x.spread(0, 0, 2));
        for (int v : new int[] {-10, 10, -128, 127}) {
            x.write(0, 1, v);
            Cases.due("of " + v, STATE, x.spread(0, 0, 2));
            Cases.due("of " + v, STATE, x.spread(0, 1, 1));
            Cases.due("ahead of it", 0, x.spread(0, 0, 1));
        }
        x.write(0, 1, 256 + 9);
        Cases.due("narrowed to 9", 18, x.spread(0, 0, 2));
    }

    static void p49PlacesAtTheirEnds() {
        MendedTube x = withBytes(new MendedTube(), 40);
        x.write(0, 39, 5);
        Cases.each(OUTSIDE, Cases.outside(0, 39), i -> x.spread(0, i, 1));
        Cases.each(OUTSIDE, Cases.outside(0, 39), i -> x.spread(0, i, 20));
        Cases.due("items 20 to 39", 5, x.spread(0, 20, 20));
        Cases.due("item 40 is outside", OUTSIDE, x.spread(0, 21, 20));
        Cases.due(0, x.spread(0, 39, 1));
    }

    static void p49SeenBelow0AndAbove() {
        MendedTube x = withBytes(Cases.pushing(9), 3, -9, 0, 9);
        x.fit(0, 2);
        Cases.due("all SEEN below 0: -27, -18, -9", 18, x.spread(0, 0, 3));
        Cases.due(9, x.spread(0, 1, 2));
        x.turn(0, 0);
        Cases.due("all SEEN above 0 or 0: 9, 18, 27", 18, x.spread(0, 0, 3));
        x.let(2, 9);
        Cases.due("9 + 9 - 81, and 8 times 9 less and more", 144, x.spread(0, 0, 3));
    }

    // ---- 50, 51: shelf, taken

    private static final int[] ALL_AS = {0, 1, 2, 3, 4, 5, 10, 11, 12, 13, 14};

    static void p50ShelfFrom0To3() {
        MendedTube x = Cases.pushing(1, 2, 3, 4);
        for (int s = 0; s <= 3; s++) Cases.due(1, x.shelf(s, 0, s));
        for (int what = 0; what <= 2; what++) {
            int w = what;
            Cases.each(BAD, NO_SHEET, s -> x.shelf(s, w, 0));
        }
        for (int s = 0; s <= 3; s++) Cases.due(s, x.taken(s, 4));
    }

    static void p50WhatFrom0To2() {
        MendedTube x = Cases.pushing(1);
        x.shelf(0, 0, 0);
        Cases.each(BAD, Cases.outside(0, 2), what -> x.shelf(0, what, 0));
        Cases.due("it holds that still", 0, x.taken(0, 0));
    }

    static void p50NoSuchLens() {
        MendedTube x = new MendedTube();
        for (int l = 0; l < 9; l++) {
            Cases.due("behind the last one", BAD, x.shelf(0, 0, l));
            x.lens(1, 0, 0, 1);
            Cases.due(1, x.shelf(0, 0, l));
        }
        Cases.each(BAD, Cases.outside(0, 8), l -> x.shelf(0, 0, l));
        Cases.due("it holds the last one still", 8, x.taken(0, 1));
    }

    static void p50NoSuchSheet() {
        MendedTube x = new MendedTube();
        for (int s = 0; s <= 3; s++) {
            x.sheet(s, 0, s);
            Cases.due(1, x.shelf(0, 1, s));
            Cases.due(s, x.taken(0, 10));
        }
        Cases.each(BAD, NO_SHEET, s -> x.shelf(0, 1, s));
        Cases.due("it holds the last one still", 3, x.taken(0, 10));
    }

    static void p50NothingWhateverN() {
        MendedTube x = Cases.pushing(1);
        for (int n : new int[] {0, -1, 9, Integer.MIN_VALUE, Integer.MAX_VALUE}) {
            x.shelf(2, 0, 0);
            Cases.due(1, x.shelf(2, 2, n));
            Cases.due(NOTHING, x.taken(2, 0));
        }
    }

    static void p50AMissingSheetIsNothing() {
        MendedTube x = Cases.pushing(1);
        x.shelf(0, 0, 0);
        Cases.due(1, x.shelf(0, 1, 2));
        for (int as : ALL_AS) Cases.due(NOTHING, x.taken(0, as));
        x.sheet(2, 0, 4);
        Cases.due("nothing still", NOTHING, x.taken(0, 10));
    }

    static void p50OneThingInPlaceOfTheOther() {
        MendedTube x = Cases.pushing(1);
        x.sheet(0, 0, 4);
        x.shelf(0, 1, 0);
        x.shelf(0, 0, 0);
        Cases.due("a LENS", 0, x.taken(0, 4));
        Cases.due("no row", OTHER, x.taken(0, 10));
        x.shelf(0, 1, 0);
        Cases.due("a row", 4, x.taken(0, 10));
        Cases.due("no LENS", OTHER, x.taken(0, 4));
        x.shelf(0, 2, 0);
        for (int as : ALL_AS) Cases.due(NOTHING, x.taken(0, as));
    }

    static void p51ShelfFrom0To3() {
        MendedTube x = Cases.pushing(1);
        for (int s = 0; s <= 3; s++) x.shelf(s, 0, 0);
        for (int s = 0; s <= 3; s++) Cases.due(0, x.taken(s, 0));
        Cases.each(BAD, NO_SHEET, s -> x.taken(s, 0));
    }

    static void p51AsFrom0To5AndFrom10To14() {
        MendedTube x = Cases.pushing(1);
        x.shelf(0, 0, 0);
        x.sheet(0, 0, 1);
        x.shelf(1, 1, 0);
        for (int s = 0; s <= 2; s++) {
            int shelf = s;
            for (int as : new int[] {6, 7, 8, 9}) Cases.due(BAD, x.taken(s, as));
            Cases.each(BAD, Cases.outside(0, 14), as -> x.taken(shelf, as));
        }
    }

    static void p51BadAheadOfAll() {
        MendedTube x = new MendedTube();
        Cases.due("nothing", BAD, x.taken(0, 6));
        Cases.due("no SHELF", BAD, x.taken(4, 15));
        Cases.due("no SHELF", BAD, x.taken(-1, 0));
    }

    static void p51OfItsKindOrAboveIt() {
        MendedTube x = new MendedTube();
        int[][] due = {{0, 0, OTHER, OTHER, OTHER, OTHER}, {1, OTHER, 1, OTHER, OTHER, OTHER}, {2, OTHER, 2, 2, OTHER, OTHER},
            {3, OTHER, OTHER, OTHER, 3, OTHER}, {4, OTHER, OTHER, OTHER, 4, 4}};
        for (int l = 0; l < 5; l++) {
            x.lens(l + 1, 0, 0, 1);
            x.shelf(0, 0, l);
            for (int as = 0; as <= 5; as++) Cases.due("KIND " + (l + 1) + " for " + as, due[l][as], x.taken(0, as));
            for (int as = 10; as <= 14; as++) Cases.due("KIND " + (l + 1) + " for a row", OTHER, x.taken(0, as));
        }
    }

    static void p51RowsOf0To40() {
        MendedTube x = new MendedTube();
        for (int sort = 0; sort <= 4; sort++) {
            for (int n : new int[] {0, 1, 40}) {
                x.sheet(3, sort, n);
                x.shelf(3, 1, 3);
                for (int as : ALL_AS) Cases.due(sort + " for " + as, as == 10 + sort ? n : OTHER, x.taken(3, as));
            }
        }
    }

    static void p51NoSuchLensAtTheTime() {
        MendedTube x = new MendedTube();
        for (int l = 0; l < 8; l++) x.lens(2, 0, 0, 1);
        x.keep();
        x.lens(5, 0, 0, 1);
        x.shelf(0, 0, 8);
        x.shelf(1, 0, 7);
        Cases.due("it is there", 8, x.taken(0, 5));
        x.again();
        for (int as : ALL_AS) Cases.due("it is not there", NOTHING, x.taken(0, as));
        Cases.due("the other one is there", 7, x.taken(1, 2));
        Cases.due("no such LENS now", BAD, x.shelf(1, 0, 8));
        x.lens(3, 0, 0, 1);
        Cases.due("one of that number is there again", 8, x.taken(0, 3));
        Cases.due("of another KIND", OTHER, x.taken(0, 5));
    }

    static void p51AsItIsNow() {
        MendedTube x = Cases.pushing(1);
        x.shelf(0, 0, 0);
        x.remake(0, 3);
        Cases.due(0, x.taken(0, 3));
        Cases.due(OTHER, x.taken(0, 4));
    }

    // ---- 52, 53: act, trace

    /** A LENS of a KIND and a BEND, with number n, on SHELF 0. */
    private static MendedTube thing(int kind, int bend, int n) {
        MendedTube x = new MendedTube();
        for (int l = 0; l < n; l++) x.lens(1, 0, 0, 1);
        x.lens(kind, bend, 0, 1);
        x.shelf(0, 0, n);
        return x;
    }

    private static void act(MendedTube x, int act, int v, int due, int... bodies) {
        Cases.due("act " + act + " of " + v, due, x.act(0, act, v));
        Cases.due("bodies of act " + act, bodies.length, x.many(6));
        for (int i = 0; i < bodies.length; i++) Cases.due("act " + act + ", body " + i, bodies[i], x.trace(i));
        Cases.due("behind the last body", NONE, x.trace(bodies.length));
    }

    private static void nothing(MendedTube x, int shelf, int act) {
        x.act(0, 3, 7);
        Cases.due("bodies of the one ahead", 1, x.many(6) > 0 ? 1 : 0);
        Cases.due(0, x.act(shelf, act, 7));
        Cases.due("no TRACE", 0, x.many(6));
        Cases.due("no TRACE", NONE, x.trace(0));
    }

    static void p52NoSuchShelf() {
        MendedTube x = thing(4, 3, 0);
        for (int shelf : NO_SHEET) nothing(x, shelf, 0);
    }

    static void p52NoSuchAct() {
        MendedTube x = thing(4, 3, 0);
        for (int act : Cases.outside(0, 3)) nothing(x, 0, act);
    }

    static void p52NothingOrARow() {
        MendedTube x = thing(4, 3, 0);
        for (int act = 0; act <= 3; act++) nothing(x, 1, act);
        for (int sort = 0; sort <= 4; sort++) {
            x.sheet(0, sort, 3);
            x.shelf(2, 1, 0);
            nothing(x, 2, sort % 4);
        }
    }

    static void p52NoSuchLensAtTheTime() {
        MendedTube x = thing(4, 3, 0);
        x.keep();
        x.lens(4, 3, 0, 1);
        x.shelf(1, 0, 1);
        Cases.due(10, x.act(1, 0, 7));
        x.again();
        nothing(x, 1, 0);
    }

    static void p52EachShelf() {
        MendedTube x = Cases.bending(1, 2, 3, 4);
        for (int s = 0; s <= 3; s++) x.shelf(s, 0, s);
        for (int s = 0; s <= 3; s++) Cases.due(100 + s + 1, x.act(s, 0, 100));
    }

    static void p52DimsWraps() {
        MendedTube x = thing(2, 9, 0);
        act(x, 0, Integer.MAX_VALUE, Integer.MIN_VALUE + 8, 10);
        act(x, 0, Integer.MAX_VALUE - 9, Integer.MAX_VALUE, 10);
        x = thing(2, -9, 0);
        act(x, 0, Integer.MIN_VALUE, Integer.MAX_VALUE - 8, 10);
        x = thing(3, 9, 0);
        act(x, 0, Integer.MAX_VALUE - 9, Integer.MIN_VALUE, 50, 10);
        x = thing(1, 1, 8);
        act(x, 0, Integer.MAX_VALUE, Integer.MIN_VALUE + 8, 20, 10);
        act(x, 0, -9, -8 ^ 8, 20, 10);
    }

    static void p52WidensWraps() {
        MendedTube x = thing(4, 9, 0);
        act(x, 1, 0x3fffffff, Integer.MIN_VALUE + 16, 11, 10);
        act(x, 1, Integer.MIN_VALUE, 18, 11, 10);
        act(x, 1, Integer.MAX_VALUE, 16, 11, 10);
        x = thing(2, 9, 0);
        act(x, 1, 0x40000000 - 9, Integer.MAX_VALUE - 8, 30, 11, 10);
        x = thing(5, 9, 0);
        act(x, 1, 0x40000000 - 9, Integer.MIN_VALUE, 60, 11, 10);
        x = thing(3, -9, 0);
        act(x, 1, 0x40000000 + 8, Integer.MIN_VALUE + 9, 30, 11, 50, 10);
    }

    static void p52PartsWraps() {
        MendedTube x = thing(1, 0, 1);
        act(x, 2, Integer.MIN_VALUE, Integer.MIN_VALUE, 12);
        act(x, 2, Integer.MAX_VALUE, -Integer.MAX_VALUE, 12);
        x = thing(4, 0, 1);
        act(x, 2, 0x40000000, Integer.MIN_VALUE, 40, 12);
        act(x, 2, Integer.MIN_VALUE, 0, 40, 12);
        act(x, 2, 0x7fffffff, 2, 40, 12);
        x = thing(5, 9, 8);
        act(x, 2, 0x40000000, Integer.MAX_VALUE - 16, 61, 40, 12, 10);
    }

    static void p52TellsWraps() {
        MendedTube x = thing(4, 9, 5);
        act(x, 3, Integer.MAX_VALUE, 16 ^ 5, 13, 11, 10);
        x = thing(2, 9, 3);
        act(x, 3, 0x40000000 - 9, Integer.MAX_VALUE - 8 ^ 3, 13, 30, 11, 10);
        x = thing(5, 9, 6);
        act(x, 3, 0x40000000 - 9, Integer.MIN_VALUE ^ 6, 13, 60, 11, 10);
        x = thing(3, -9, 2);
        act(x, 3, 0x40000000 + 8, (Integer.MIN_VALUE + 9 ^ 2) + 2 / -11, 51, 13, 30, 11, 50, 10, 12);
    }

    static void p52TheRestIsAway() {
        MendedTube x = thing(1, 5, 2);
        act(x, 2, 8, 2, 12);
        act(x, 2, -8, -2, 12);
        act(x, 2, 2, 0, 12);
        act(x, 2, -2, 0, 12);
        x = thing(1, -1, 2);
        act(x, 2, 8, -2, 12);
        act(x, 2, -8, 2, 12);
    }

    static void p52PartedBy0() {
        for (int n : new int[] {0, 1, 8}) {
            for (int v : new int[] {7, 0, Integer.MIN_VALUE, Integer.MAX_VALUE}) {
                act(thing(1, n, n), 2, v, BY_0, 12);
                act(thing(2, n, n), 2, v, BY_0, 12);
                act(thing(3, n, n), 2, v, BY_0, 12);
                act(thing(4, n, n), 2, v, BY_0, 40, 12);
                act(thing(5, n, n), 2, v, BY_0, 61, 40, 12);
                act(thing(3, n, n), 3, v, BY_0, 51, 13, 30, 11, 50, 10, 12);
            }
        }
    }

    static void p52NextToPartedBy0() {
        act(thing(1, 1, 0), 2, 7, 7, 12);
        act(thing(1, -1, 0), 2, 7, -7, 12);
        act(thing(1, 7, 8), 2, 7, -7, 12);
        act(thing(1, 9, 8), 2, 7, 7, 12);
    }

    static void p52OthersDoNotPart() {
        for (int kind : new int[] {1, 2, 4, 5}) {
            MendedTube x = thing(kind, 1, 1);
            Cases.due("tells, KIND " + kind, 1, x.act(0, 3, 20) == BY_0 ? 0 : 1);
            Cases.due("widens, KIND " + kind, 1, x.act(0, 1, 20) == BY_0 ? 0 : 1);
        }
        MendedTube x = thing(3, 1, 1);
        act(x, 1, 20, 43, 30, 11, 50, 10);
    }

    static void p52AsLowAsTheRefusals() {
        MendedTube x = thing(2, 0, 0);
        for (int v : new int[] {-1, -2, -3, -4, -11, -12, -13, -14, -15}) act(x, 0, v, v, 10);
    }

    static void p52NothingIsLeftOfAPartingBy0() {
        MendedTube x = thing(5, 1, 1);
        act(x, 2, 7, BY_0, 61, 40, 12);
        act(x, 0, 7, 8, 10);
        x.grind(0, 1, 5);
        x.shelf(0, 0, 0);
        act(x, 2, 7, 1, 12);
    }

    static void p53FromTheFirstToTheLastBody() {
        MendedTube x = thing(3, 5, 2);
        Cases.due("empty", NONE, x.trace(0));
        x.act(0, 3, 7);
        int[] due = {51, 13, 30, 11, 50, 10, 12};
        for (int i = 0; i < 7; i++) Cases.due(due[i], x.trace(i));
        Cases.each(NONE, Cases.outside(0, 6), x::trace);
        for (int i = 7; i <= 31; i++) Cases.due("body " + i, NONE, x.trace(i));
    }

    static void p53OfTheLatestActAlone() {
        MendedTube x = thing(3, 5, 2);
        act(x, 3, 7, 23, 51, 13, 30, 11, 50, 10, 12);
        act(x, 2, 7, 2, 12);
        Cases.due("of the one ahead", NONE, x.trace(1));
        Cases.due("of the one ahead", NONE, x.trace(6));
    }

    // ---- 54: many

    static void p54WhatFrom0To6() {
        MendedTube x = new MendedTube();
        for (int what = 0; what <= 6; what++) Cases.due("none of " + what, 0, x.many(what));
        Cases.each(BAD, Cases.outside(0, 6), x::many);
    }

    static void p54AsManyAsCanBe() {
        MendedTube x = Cases.pushing(1, 1, 1, 1, 1, 1, 1, 1, 1);
        Cases.tell(x, "lens flat;".repeat(8));
        for (int l = 0; l < 4; l++) x.fit(l, 0);
        for (int r = 0; r < 6; r++) x.report(0, 0);
        x.prove(0);
        Cases.feed(x, " ".repeat(200));
        x.remake(8, 3);
        x.shelf(0, 0, 8);
        x.act(0, 3, 0);
        int[] due = {9, 8, 4, 6, 6, 200, 7};
        for (int what = 0; what <= 6; what++) Cases.due("of " + what, due[what], x.many(what));
        x.lens(1, 0, 0, 1);
        x.fit(8, 0);
        x.report(0, 0);
        x.feed(0, 1);
        for (int what = 0; what <= 6; what++) Cases.due("not one more of " + what, due[what], x.many(what));
    }

    public static void main(String[] args) throws Exception {
        Cases.run(EdgeHostTest.class, 45, 54);
    }
}
