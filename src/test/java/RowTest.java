/** Promises 41 to 44. */
public final class RowTest {
    private static final Due DUE = new Due("RowTest");

    /** STRENGTH 1, TILT 2 at PLACE 0; at PLACE 1 TILT 1 alone. */
    private static MendedTube two() {
        MendedTube x = new MendedTube();
        x.lens(4, 0, 1, 1);
        x.lens(2, 1, 2, 1);
        x.lens(4, 0, 5, 1);
        x.fit(1, 0);
        x.fit(0, 0);
        return x;
    }

    private static void promises41To43Rows() {
        MendedTube x = two();
        DUE.is("42 none yet", -9, x.row(0, 0));
        DUE.is("43 none yet", 0, x.alterRow(0, 0, 1));
        DUE.is("44 none yet", 0, x.judge());
        DUE.is("41 too high", -1, x.prove(10));
        DUE.is("41 too low", -1, x.prove(-10));
        DUE.is("41 how many", 4, x.prove(3));
        int[][] due = {{-9, 3, 0}, {1, 2, -1}, {0, 2, 0}, {9, 2, 0}};
        for (int k = 0; k < 4; k++) {
            for (int what = 0; what < 3; what++) DUE.is("42 ROW " + k, due[k][what], x.row(k, what));
        }
        x.let(1, 2);
        x.let(2, -1);
        DUE.is("42 as they were", 2, x.row(3, 1));
        DUE.is("41 refused", -1, x.prove(99));
        DUE.is("41 refused, ROWS stay", 3, x.row(0, 1));
        x.prove(3);
        int[][] wider = {{-9, 3, 0}, {1, 1, -1}, {0, 1, 0}, {9, 3, 1}};
        for (int k = 0; k < 4; k++) {
            for (int what = 0; what < 3; what++) DUE.is("42 ROW " + k + " by GAP and EYE", wider[k][what], x.row(k, what));
        }
        for (int[] none : new int[][] {{4, 0}, {-1, 0}, {0, 3}, {0, -1}}) {
            DUE.is("42 none such", -9, x.row(none[0], none[1]));
            DUE.is("43 none such", 0, x.alterRow(none[0], none[1], 5));
        }
        DUE.is("43 another one", 2, x.alterRow(2, 1, Integer.MAX_VALUE));
        DUE.is("43 the same", 1, x.alterRow(2, 1, Integer.MAX_VALUE));
        DUE.is("43 altered", Integer.MAX_VALUE, x.row(2, 1));
        DUE.is("43 none else", 1, x.row(1, 1));
        x.take(0);
        x.take(0);
        DUE.is("41 of an empty TUBE", 2, x.prove(0));
        DUE.is("42 gone", -9, x.row(2, 0));
        DUE.is("44 of an empty TUBE", 0, x.judge());
    }

    private static void promises41To44Full() {
        MendedTube x = Cases.pushing(1, 2, 3, 4);
        for (int l = 0; l < 4; l++) x.fit(l, 0);
        DUE.is("41 full", 6, x.prove(-9));
        int[] heights = {-9, -8, -5, 1, 11, 21};
        for (int k = 0; k < 6; k++) DUE.is("42 full, ROW " + k, heights[k], x.row(k, 1));
        DUE.is("42 none behind", -9, x.row(6, 1));
        DUE.is("44 full", 0, x.judge());
    }

    private static void promise44Judge() {
        MendedTube x = two();
        for (int height = -9; height <= 9; height += 9) {
            x.prove(height);
            DUE.is("44 all right", 0, x.judge());
            for (int k = 0; k < 4; k++) {
                for (int what = 0; what < 3; what++) {
                    int was = x.row(k, what);
                    x.alterRow(k, what, was + 100);
                    DUE.is("44 " + k + ", " + what, k + 1, x.judge());
                    x.alterRow(k, what, was);
                }
            }
        }
        x.alterRow(0, 1, 8);
        DUE.is("44 the others are not of that HEIGHT", 2, x.judge());
        x.prove(0);
        x.alterRow(1, 2, 50);
        x.alterRow(3, 2, 50);
        DUE.is("44 the first that isn't right", 2, x.judge());
        x.prove(0);
        x.fit(2, 0);
        DUE.is("44 one LENS more", 4, x.judge());
        x.alterRow(3, 0, 2);
        MendedTube y = two();
        y.fit(2, 0);
        y.prove(0);
        x.alterRow(3, 1, y.row(3, 1));
        x.alterRow(3, 2, y.row(3, 2));
        DUE.is("44 the last one must be that of the EYE", 4, x.judge());
        y.take(2);
        DUE.is("44 one LENS less", 4, y.judge());
        y.alterRow(3, 0, 9);
        x.take(2);
        x.prove(0);
        for (int what = 0; what < 3; what++) y.alterRow(3, what, x.row(3, what));
        DUE.is("44 behind the EYE nothing is right", 5, y.judge());
        x.prove(5);
        x.let(0, 1);
        DUE.is("44 by HEAT", 2, x.judge());
    }

    public static void main(String[] args) {
        promises41To43Rows();
        promises41To44Full();
        promise44Judge();
        DUE.end();
    }
}
