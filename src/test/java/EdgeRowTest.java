/** What promises 41 to 44 say of bounds, of no ROWS, of the empty and the full TUBE. */
public final class EdgeRowTest {
    private static final int BAD = -1;

    /** ROWS 0 to 5: HEIGHTS 3, 4, 7, 13, 23, 33; SLOPES 0, 1, 3, 6, 10, 10. */
    private static MendedTube full() {
        return Cases.fitted(Cases.pushing(1, 2, 3, 4));
    }

    private static void rowsAre(MendedTube x, int[][] due) {
        for (int k = 0; k < due.length; k++) {
            for (int what = 0; what < 3; what++) Cases.due("ROW " + k + ", " + what, due[k][what], x.row(k, what));
        }
        for (int what = 0; what < 3; what++) Cases.due("behind the last one", -9, x.row(due.length, what));
        Cases.due("how many", due.length, x.many(4));
    }

    // ---- 41: prove

    static void p41HeightFromMinus9To9() {
        MendedTube x = new MendedTube();
        for (int height = -9; height <= 9; height++) {
            Cases.due(2, x.prove(height));
            Cases.due(height, x.row(0, 1));
        }
        Cases.each(BAD, Cases.outside(-9, 9), x::prove);
        Cases.due("ROWS stay", 9, x.row(0, 1));
        Cases.due("ROWS stay", 2, x.many(4));
    }

    static void p41RefusedAheadOfAnyRows() {
        MendedTube x = full();
        Cases.due(BAD, x.prove(10));
        Cases.due(0, x.many(4));
    }

    static void p41OfAnEmptyTube() {
        MendedTube x = new MendedTube();
        x.let(2, 9);
        x.let(1, 3);
        Cases.due(2, x.prove(9));
        rowsAre(x, new int[][] {{-9, 9, 0}, {9, 9 - 3 * 81, -81}});
    }

    static void p41OfAFullTube() {
        MendedTube x = full();
        Cases.due(6, x.prove(3));
        rowsAre(x, new int[][] {{-9, 3, 0}, {0, 4, 1}, {1, 7, 3}, {2, 13, 6}, {3, 23, 10}, {9, 33, 10}});
    }

    static void p41FewerRowsThanBefore() {
        MendedTube x = full();
        x.prove(3);
        for (int places = 3; places >= 0; places--) {
            x.take(0);
            Cases.due(places + 2, x.prove(0));
            Cases.due(places + 2, x.many(4));
            Cases.due(-9, x.row(places + 2, 1));
            Cases.due(0, x.alterRow(places + 2, 1, 5));
        }
    }

    // ---- 42, 43: row, alterRow

    static void p42NoRows() {
        MendedTube x = full();
        for (int k = 0; k < 6; k++) {
            for (int what = 0; what < 3; what++) Cases.due(-9, x.row(k, what));
        }
    }

    static void p42NoneSuch() {
        MendedTube x = full();
        x.prove(3);
        Cases.each(-9, Cases.outside(0, 5), k -> x.row(k, 1));
        Cases.each(-9, Cases.outside(0, 2), what -> x.row(1, what));
        Cases.due(33, x.row(5, 1));
        Cases.due(10, x.row(5, 2));
    }

    static void p43NoRows() {
        MendedTube x = full();
        for (int k = 0; k < 6; k++) {
            for (int what = 0; what < 3; what++) Cases.due(0, x.alterRow(k, what, 1));
        }
        Cases.due(0, x.many(4));
    }

    static void p43NoneSuch() {
        MendedTube x = full();
        x.prove(3);
        Cases.each(0, Cases.outside(0, 5), k -> x.alterRow(k, 1, 99));
        Cases.each(0, Cases.outside(0, 2), what -> x.alterRow(1, what, 99));
        rowsAre(x, new int[][] {{-9, 3, 0}, {0, 4, 1}, {1, 7, 3}, {2, 13, 6}, {3, 23, 10}, {9, 33, 10}});
    }

    static void p43EachInt() {
        MendedTube x = full();
        x.prove(3);
        for (int k = 0; k < 6; k++) {
            for (int what = 0; what < 3; what++) {
                Cases.due("the same", 1, x.alterRow(k, what, x.row(k, what)));
                for (int v : new int[] {Integer.MIN_VALUE, Integer.MAX_VALUE, -9 - k}) {
                    Cases.due("another one", 2, x.alterRow(k, what, v));
                    Cases.due(v, x.row(k, what));
                    Cases.due("the same", 1, x.alterRow(k, what, v));
                }
            }
        }
        rowsAre(x, new int[][] {{-9, -9, -9}, {-10, -10, -10}, {-11, -11, -11}, {-12, -12, -12}, {-13, -13, -13}, {-14, -14, -14}});
    }

    // ---- 44: judge

    static void p44NoRows() {
        Cases.due(0, new MendedTube().judge());
        MendedTube x = full();
        x.prove(10);
        Cases.due(0, x.judge());
    }

    static void p44TheFirstTellsMinus9() {
        MendedTube x = full();
        x.prove(3);
        for (int v : new int[] {9, 0, -8, -10, Integer.MIN_VALUE, Integer.MAX_VALUE}) {
            x.alterRow(0, 0, v);
            Cases.due(1, x.judge());
        }
        x.alterRow(0, 0, -9);
        Cases.due(0, x.judge());
    }

    static void p44TheFirstTellsAHeightFromMinus9To9() {
        MendedTube x = new MendedTube();
        x.prove(0);
        for (int v = -9; v <= 9; v++) {
            x.alterRow(0, 1, v);
            Cases.due(v == 0 ? 0 : 2, x.judge());
            x.alterRow(1, 1, v);
            Cases.due("all of that HEIGHT", 0, x.judge());
            x.alterRow(1, 1, 0);
        }
        Cases.each(1, Cases.outside(-9, 9), v -> {
            x.alterRow(0, 1, v);
            x.alterRow(1, 1, v);
            return x.judge();
        });
    }

    static void p44TheFirstTellsSlope0() {
        MendedTube x = full();
        x.prove(3);
        for (int v : new int[] {-1, 1, Integer.MIN_VALUE, 65536}) {
            x.alterRow(0, 2, v);
            Cases.due(1, x.judge());
        }
    }

    static void p44EachOtherOneByEachOfItsNumbers() {
        MendedTube x = full();
        x.prove(3);
        for (int k = 1; k < 6; k++) {
            for (int what = 0; what < 3; what++) {
                int was = x.row(k, what);
                for (int v : new int[] {was + 1, was - 1, was + 65536, was ^ Integer.MIN_VALUE}) {
                    x.alterRow(k, what, v);
                    Cases.due("ROW " + k + ", " + what, k + 1, x.judge());
                }
                x.alterRow(k, what, was);
            }
        }
        Cases.due(0, x.judge());
    }

    static void p44TheFirstThatIsNotRight() {
        MendedTube x = full();
        x.prove(3);
        for (int k = 5; k >= 0; k--) {
            x.alterRow(k, 2, 99);
            Cases.due(k + 1, x.judge());
        }
    }

    static void p44AsItComesOfWhatTheFirstOneTells() {
        MendedTube x = full();
        x.prove(3);
        x.alterRow(1, 1, 5);
        x.alterRow(2, 1, 8);
        Cases.due("not of what ROW 1 tells", 2, x.judge());
        x.alterRow(1, 1, 4);
        Cases.due(3, x.judge());
    }

    static void p44TheLastOneMustBeThatOfTheEye() {
        MendedTube x = Cases.pushing(1, 2, 3, 4);
        x.prove(3);
        Cases.due(0, x.judge());
        x.fit(0, 0);
        Cases.due("ROW 1 is that of the EYE still", 2, x.judge());
        x.alterRow(1, 0, 0);
        x.alterRow(1, 1, 4);
        x.alterRow(1, 2, 1);
        Cases.due("ROW 1 is that of PLACE 0, but the last one", 2, x.judge());
        x.take(0);
        x.fit(1, 0);
        x.prove(3);
        x.take(0);
        Cases.due("of an empty TUBE: ROW 1 is not that of the EYE", 2, x.judge());
    }

    static void p44BehindTheEyeNothingIsRight() {
        MendedTube x = full();
        x.prove(3);
        x.take(3);
        Cases.due("ROW 4 tells LENS 3", 5, x.judge());
        int[] eye = {9, 19, 6};
        for (int what = 0; what < 3; what++) x.alterRow(4, what, eye[what]);
        Cases.due("ROW 4 is that of the EYE, ROW 5 behind it", 6, x.judge());
        for (int what = 0; what < 3; what++) x.alterRow(5, what, eye[what]);
        Cases.due("a second one of the EYE", 6, x.judge());
        for (int p = 0; p < 3; p++) x.take(0);
        Cases.due("of an empty TUBE", 2, x.judge());
        x.alterRow(1, 0, 9);
        x.alterRow(1, 1, 3);
        x.alterRow(1, 2, 0);
        Cases.due("ROW 1 is that of the EYE, ROW 2 behind it", 3, x.judge());
    }

    static void p44AsThingsAreNow() {
        MendedTube x = full();
        x.prove(3);
        x.exchange(2, 3);
        Cases.due(4, x.judge());
        x.exchange(2, 3);
        Cases.due(0, x.judge());
        x.turn(1, 1);
        Cases.due(3, x.judge());
        x.turn(1, 0);
        x.let(2, 1);
        Cases.due("EYE", 6, x.judge());
        x.let(2, 0);
        x.let(1, 2);
        Cases.due("GAP", 2, x.judge());
    }

    public static void main(String[] args) throws Exception {
        Cases.run(EdgeRowTest.class, 41, 44);
    }
}
