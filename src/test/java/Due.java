/** Counts the answers that are not the ones that are due. */
final class Due {
    private final String test;
    private int asked;
    private int wrong;

    Due(String test) {
        this.test = test;
    }

    void is(String what, long due, long got) {
        asked++;
        if (due == got) return;
        wrong++;
        System.out.println(test + ": " + what + " answered " + got + ", due is " + due);
    }

    void end() {
        System.out.println(test + ": " + (asked - wrong) + " of " + asked + " answers are as due");
        if (wrong > 0) System.exit(1);
    }

    /** What rules() answers to a text. */
    static int tell(MendedTube x, String text) {
        for (int i = 0; i < text.length(); i++) x.feed(text.charAt(i), 1);
        return x.rules();
    }

    /** LENSES of KIND twin with BEND 0: they only push, by TILTS. */
    static MendedTube pushing(int... tilts) {
        MendedTube x = new MendedTube();
        for (int tilt : tilts) x.lens(4, 0, tilt, 1);
        return x;
    }
}
