/** Counts the answers that are not the ones that are due. */
final class Due {
    private final String test;
    private int asked;
    private int wrong;

    Due(String test) {
        this.test = test;
    }

    void is(String what, long due, long got) {
        asked++;
        if (due == got) return;
        wrong++;
        System.out.println(test + ": " + what + " answered " + got + ", due is " + due);
    }

    void end() {
        System.out.println(test + ": " + (asked - wrong) + " of " + asked + " answers are as due");
        if (wrong > 0) System.exit(1);
    }
}
