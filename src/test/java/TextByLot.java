import java.util.Random;

/** A text of RULES drawn by lot, half of them with something wrong in it. */
final class TextByLot {
    private static final String[] KINDS = {"lens", "scratched", "warm", "dusty", "twin", "tilted"};
    private static final String[] FACTS = {"heat", "gap", "eye", "bend", "number"};
    private static final String[] OTHER = {"(", ")", ";", "not", "and", "or", "if", "more", "less", "flat", "12345",
        "9999", "100", "99", "0", "lenss", "Lens", "x", "<", "=", ">", "-", "\n", "\0", "\u00e9", "lens", "heat", "tilted"};

    private final Random lot;
    private final StringBuilder text = new StringBuilder();

    TextByLot(Random lot) {
        this.lot = lot;
    }

    String text() {
        int rules = lot.nextInt(5) == 0 ? 8 + lot.nextInt(2) : 1 + lot.nextInt(4);
        boolean brief = rules > 4;
        for (int r = 0; r < rules; r++) {
            word(KINDS[lot.nextInt(KINDS.length)]);
            if (!brief && lot.nextInt(3) > 0) {
                word("if");
                condition(0);
            }
            int does = lot.nextInt(3);
            word(does == 0 ? "flat" : does == 1 ? "more" : "less");
            if (does > 0) word("" + lot.nextInt(lot.nextInt(3) == 0 ? 104 : 8));
            word(";");
        }
        if (lot.nextBoolean()) spoil();
        if (text.length() > 200) text.setLength(200);
        return text.toString();
    }

    private void spoil() {
        int at = lot.nextInt(text.length());
        String[] with = {"", OTHER[lot.nextInt(OTHER.length)], " " + OTHER[lot.nextInt(OTHER.length)] + " "};
        int to = Math.min(text.length(), at + lot.nextInt(6));
        text.replace(at, to, with[lot.nextInt(3)]);
        if (text.length() > 0 && lot.nextInt(4) == 0) text.setLength(lot.nextInt(text.length()));
    }

    /** Blanks stand where two words would run into one, and elsewhere as one likes. */
    private void word(String w) {
        boolean letters = text.length() > 0 && isLetter(text.charAt(text.length() - 1)) && isLetter(w.charAt(0));
        boolean digits = text.length() > 0 && isDigit(text.charAt(text.length() - 1)) && isDigit(w.charAt(0));
        if (letters || digits) text.append(' ');
        while (lot.nextInt(5) == 0) text.append(' ');
        text.append(w);
    }

    private static boolean isLetter(char c) {
        return c >= 'a' && c <= 'z';
    }

    private static boolean isDigit(char c) {
        return c >= '0' && c <= '9';
    }

    private void condition(int open) {
        one(open);
        while (lot.nextInt(3) == 0) {
            word(lot.nextBoolean() ? "and" : "or");
            one(open);
        }
    }

    private void one(int open) {
        while (lot.nextInt(4) == 0) word("not");
        if (lot.nextInt(4) == 0 && open < 4) {
            word("(");
            condition(open + 1);
            word(")");
        } else {
            value();
            word("<=>".substring(lot.nextInt(3)).substring(0, 1));
            value();
        }
    }

    private void value() {
        word(lot.nextBoolean() ? FACTS[lot.nextInt(FACTS.length)] : "" + lot.nextInt(lot.nextInt(6) == 0 ? 11000 : 6));
    }
}
