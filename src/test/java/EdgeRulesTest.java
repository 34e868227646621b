/** What promises 8 and 9 say of bounds, of the empty and the full state, of FAULTS. */
public final class EdgeRulesTest {
    private static final int BAD = -1, FULL = -2;
    private static final String BLANKS = " ".repeat(200);
    private static final String EIGHT_RULES = "lens flat;".repeat(8);

    private static MendedTube withTape(int bytes) {
        MendedTube x = new MendedTube();
        Cases.feed(x, BLANKS.substring(0, bytes));
        return x;
    }

    // ---- 8: feed

    static void p8NFrom1To8() {
        MendedTube x = new MendedTube();
        int has = 0;
        for (int n = 1; n <= 8; n++) {
            has += n;
            Cases.due(has, x.feed(0, n));
        }
        Cases.each(BAD, Cases.outside(1, 8), n -> x.feed(0, n));
        Cases.due(36, x.many(5));
    }

    static void p8TheLowestOfEightFirst() {
        MendedTube x = Cases.bending(5);
        x.feed(0x616c6620736e656cL, 8);
        x.feed(0x3b74L, 2);
        Cases.due("lens flat;", 1, x.rules());
        Cases.due(0, x.lensOf(0, 4));
    }

    static void p8BytesBehindNAreLeftOut() {
        for (int n = 1; n <= 7; n++) {
            MendedTube x = new MendedTube();
            long blanks = 0x2020202020202020L;
            Cases.due(n, x.feed(blanks | -1L << 8 * n, n));
            Cases.due("blanks alone", 0, x.rules());
        }
    }

    static void p8EachOfEightIsTaken() {
        for (int at = 0; at < 8; at++) {
            MendedTube x = new MendedTube();
            x.feed(0x2020202020202020L & ~(255L << 8 * at) | (long) '?' << 8 * at, 8);
            Cases.due(-100 - at, x.rules());
        }
    }

    static void p8BytesAbove127() {
        for (int at = 0; at < 8; at++) {
            for (long b : new long[] {128, 160, 236, 255}) {
                MendedTube x = new MendedTube();
                Cases.due(8, x.feed(0x2020202020202020L & ~(255L << 8 * at) | b << 8 * at, 8));
                Cases.due(b + " at " + at, -100 - at, x.rules());
            }
        }
        MendedTube x = new MendedTube();
        Cases.due(8, x.feed(-1L, 8));
        Cases.due(-100, x.rules());
        Cases.due(8, x.feed(Long.MIN_VALUE | 0x20202020202020L, 8));
        Cases.due(-107, x.rules());
        Cases.due(8, x.feed(Long.MIN_VALUE, 8));
        Cases.due(-100, x.rules());
        Cases.due(8, x.feed(Long.MAX_VALUE, 8));
        Cases.due(-100, x.rules());
    }

    static void p8JustTwoHundred() {
        for (int n = 1; n <= 8; n++) {
            Cases.due(200, withTape(200 - n).feed(0, n));
            Cases.due(FULL, withTape(201 - n).feed(0, n));
        }
    }

    static void p8AFullTapeTakesNoByte() {
        MendedTube x = withTape(200);
        Cases.due(200, x.many(5));
        for (int n = 1; n <= 8; n++) Cases.due(FULL, x.feed(0, n));
        Cases.due(200, x.many(5));
        Cases.due(0, x.rules());
    }

    static void p8NotAByteOfThoseThatAreTooMany() {
        MendedTube x = Cases.bending(5);
        Cases.feed(x, "lens flat;" + BLANKS.substring(0, 183));
        Cases.due(FULL, x.feed(-1L, 8));
        Cases.due(193, x.many(5));
        Cases.due("seven can come still", 200, x.feed(0x20202020202020L, 7));
        Cases.due(1, x.rules());
        Cases.due(0, x.lensOf(0, 4));
    }

    static void p8BadAheadOfFull() {
        MendedTube x = withTape(200);
        Cases.each(BAD, Cases.outside(1, 8), n -> x.feed(0, n));
    }

    static void p8FullAgainWhenUsedUp() {
        MendedTube x = withTape(200);
        x.rules();
        Cases.due(0, x.many(5));
        for (int i = 1; i <= 25; i++) Cases.due(8 * i, x.feed(0x2020202020202020L, 8));
        Cases.due(FULL, x.feed(0, 1));
    }

    // ---- 9: rules

    /** FAULT of a text; RULES that were told ahead stay, THE TAPE is used up. */
    private static void fault(String text, int due) {
        MendedTube x = Cases.bending(5);
        Cases.tell(x, "warm less 1;");
        Cases.due("FAULT of \"" + text + "\"", -100 - due, Cases.tell(x, text));
        Cases.due("THE TAPE behind \"" + text + "\"", 0, x.many(5));
        Cases.due("how many RULES behind \"" + text + "\"", 1, x.many(1));
        Cases.due("THE RULES behind \"" + text + "\"", 4, x.lensOf(0, 4));
    }

    private static void taken(String text, int due) {
        MendedTube x = new MendedTube();
        Cases.due("RULES of \"" + text + "\"", due, Cases.tell(x, text));
        Cases.due("how many of \"" + text + "\"", due, x.many(1));
        Cases.due("THE TAPE behind \"" + text + "\"", 0, x.many(5));
    }

    /** Of three warm LENSES of BEND -2: the one of number 1, by HEAT 3, GAP 2, EYE -4; 1 without a RULE, 3 if flat. */
    private static void holds(String condition, boolean due) {
        MendedTube x = Cases.bending(-2, -2, -2);
        x.let(0, 3);
        x.let(1, 2);
        x.let(2, -4);
        Cases.due("\"" + condition + "\"", 1, Cases.tell(x, "warm if " + condition + " flat;"));
        Cases.due("whether it holds: \"" + condition + "\"", due ? 3 : 1, x.lensOf(1, 4));
    }

    static void p9AnEmptyTapeTellsNoRules() {
        MendedTube x = Cases.bending(5);
        Cases.due(0, x.rules());
        Cases.tell(x, "lens flat;");
        Cases.due("in place of all", 0, x.rules());
        Cases.due(0, x.many(1));
        Cases.due(5, x.lensOf(0, 4));
    }

    static void p9BlanksAloneTellNoRules() {
        taken(" ", 0);
        taken(BLANKS, 0);
    }

    static void p9InPlaceOfAll() {
        MendedTube x = Cases.bending(5);
        Cases.due(8, Cases.tell(x, EIGHT_RULES));
        Cases.due(1, Cases.tell(x, "warm less 2;"));
        Cases.due(1, x.many(1));
        Cases.due(3, x.lensOf(0, 4));
    }

    static void p9OneToEightRules() {
        for (int n = 1; n <= 8; n++) taken("lens flat;".repeat(n), n);
    }

    static void p9TheEighthRuleCounts() {
        MendedTube x = Cases.bending(5);
        Cases.due(8, Cases.tell(x, "twin flat;".repeat(7) + "warm less 2;"));
        Cases.due(3, x.lensOf(0, 4));
    }

    static void p9TheFirstNameOfTheNinthRule() {
        fault(EIGHT_RULES + "lens flat;", 80);
        fault(EIGHT_RULES + "  tilted", 82);
        fault(EIGHT_RULES + "x", 80);
        fault(EIGHT_RULES + ";", 80);
        fault(EIGHT_RULES + " 1", 81);
        taken(EIGHT_RULES + "  ", 8);
    }

    static void p9UsedUpByATextWithoutFault() {
        MendedTube x = new MendedTube();
        Cases.tell(x, "lens flat;");
        Cases.due(0, x.many(5));
        Cases.due("nothing of it is left", 0, x.rules());
    }

    static void p9UsedUpByAFault() {
        MendedTube x = new MendedTube();
        Cases.due(-100, Cases.tell(x, "x"));
        Cases.due(0, x.many(5));
        Cases.due("nothing of it is left", 1, Cases.tell(x, "lens flat;"));
    }

    static void p9ALaterTextIsReadFromItsOwnBytes() {
        MendedTube x = new MendedTube();
        Cases.tell(x, "lens if heat < 3 and gap = 2 or eye > 4 more 5;");
        Cases.due("lens", -104, Cases.tell(x, "lens"));
        Cases.due("len", -100, Cases.tell(x, "len"));
        Cases.due("lens more 5", -111, Cases.tell(x, "lens more 5"));
    }

    static void p9NumbersOfOneToFourDigits() {
        holds("0 = 0000", true);
        holds("9999 = 9999", true);
        holds("9998 < 9999", true);
        holds("9999 > 9998", true);
        holds("heat = 0003", true);
        holds("9999 < 9999", false);
        fault("lens if 00000 = 0 flat;", 8);
        fault("lens if 10000 = 0 flat;", 8);
        fault("lens if 0 = 99999 flat;", 12);
        fault("lens if 0 = 12345678901234567890 flat;", 12);
        fault("lens if 0 = " + "0".repeat(188), 12);
    }

    static void p9MoreAndLessBy0To99() {
        int[] ns = {0, 1, 98, 99};
        for (int n : ns) {
            MendedTube x = Cases.bending(0);
            Cases.due(1, Cases.tell(x, "lens more " + n + ";"));
            Cases.due(Math.min(9, n), x.lensOf(0, 4));
            Cases.due(1, Cases.tell(x, "lens less " + n + ";"));
            Cases.due(-Math.min(9, n), x.lensOf(0, 4));
        }
        taken("lens more 099;lens less 0099;", 2);
        for (String n : new String[] {"100", "0100", "999", "9999", "10000", "00001"}) {
            fault("lens more " + n + ";", 10);
            fault("lens less  " + n + ";", 11);
        }
    }

    static void p9FlatTakesNoNumber() {
        fault("lens flat 0;", 10);
    }

    static void p9ThreeOpenWithinOneAnother() {
        holds("(1=1)", true);
        holds("((1=1))", true);
        holds("(((1=1)))", true);
        holds("(((1=2)))", false);
        holds("(((1=1)))and(((1=1)))or(((1=2)))", true);
        holds("not(not(not(1=1)))", false);
    }

    static void p9TheFourthOpenOne() {
        fault("lens if ((((1=1)))) flat;", 11);
        fault("lens if (((1=1 and (1=1)))) flat;", 19);
        fault("lens if (1=1 and (1=1 or ( not (1=1)))) flat;", 31);
        fault("lens if (((1=1))) and ((((", 25);
        fault("lens if " + "(".repeat(192), 11);
    }

    static void p9TheFirstFaultIsTold() {
        fault("? lens more 100;", 0);
        fault("lens more 100 ? x", 10);
        fault("lens if 1 1 12345 ((((", 10);
        fault("lens flat ; x ; y ;", 12);
    }

    private static final String[] WHOLE = {"lens", "if", "not", "not", "(", "heat", "<", "3", "and", "(", "gap", "=", "2",
        "or", "1", ">", "eye", ")", ")", "or", "bend", "=", "number", "more", "4", ";", "tilted", "less", "99", ";"};

    private static String joined(int words) {
        StringBuilder text = new StringBuilder();
        for (int i = 0; i < words; i++) text.append(i == 0 ? "" : " ").append(WHOLE[i]);
        return text.toString();
    }

    static void p9TheEndIfMoreMustCome() {
        for (int words = 1; words <= WHOLE.length; words++) {
            String text = joined(words);
            if (WHOLE[words - 1].equals(";")) {
                taken(text, words == WHOLE.length ? 2 : 1);
                taken(text + "  ", words == WHOLE.length ? 2 : 1);
            } else {
                fault(text, text.length());
                fault(text + "   ", text.length() + 3);
            }
        }
    }

    /** A byte that can't stand anywhere, NAMES that are none, and a NUMBER of more digits, in place of each word. */
    static void p9EachPlaceHasItsFault() {
        for (int words = 0; words < WHOLE.length; words++) {
            String ahead = joined(words) + (words == 0 ? "" : " ");
            for (String other : new String[] {"?", "x", "12345", "lenss", "Lens", "\u00e9"}) {
                fault(ahead + other, ahead.length());
                fault(ahead + other + " flat;", ahead.length());
            }
        }
    }

    /** Words that stand elsewhere in a text. */
    static void p9WordsThatStandElsewhere() {
        fault("if 1=1 flat;", 0);
        fault("more 1;", 0);
        fault("heat = 1 flat;", 0);
        fault("3", 0);
        fault("lens lens flat;", 5);
        fault("lens heat = 1 flat;", 5);
        fault("lens ;", 5);
        fault("lens if if 1=1 flat;", 8);
        fault("lens if lens = 1 flat;", 8);
        fault("lens if and 1=1 flat;", 8);
        fault("lens if ) flat;", 8);
        fault("lens if () flat;", 9);
        fault("lens if 1 and 1=1 flat;", 10);
        fault("lens if 1 << 1 flat;", 11);
        fault("lens if 1 < = 1 flat;", 12);
        fault("lens if 1 = not 1 flat;", 12);
        fault("lens if 1 = (1) flat;", 12);
        fault("lens if 1 = 1 = 1 flat;", 14);
        fault("lens if 1 = 1 ) flat;", 14);
        fault("lens if 1 = 1 ( 1 = 1 ) flat;", 14);
        fault("lens if 1 = 1 not 1 = 1 flat;", 14);
        fault("lens if 1 = 1 and or 1 = 1 flat;", 18);
        fault("lens if ( 1 = 1 flat;", 16);
        fault("lens if ( 1 = 1 ; flat;", 16);
        fault("lens if 1 = 1 ;", 14);
        fault("lens if 1 = 1 if 1 = 1 flat;", 14);
        fault("lens more ;", 10);
        fault("lens more heat;", 10);
        fault("lens more more 1;", 10);
        fault("lens more 1 less 1;", 12);
        fault("lens flat lens flat;", 10);
        fault("lens flat ; ;", 12);
    }

    static void p9NamesGoAsLongAsTheyGo() {
        fault("lensflat;", 0);
        fault("lens flatx;", 5);
        fault("lens iff 1=1 flat;", 5);
        fault("lens ifheat = 1 flat;", 5);
        fault("len s flat;", 0);
        fault("lens fl at;", 5);
        fault("lens if he at = 1 flat;", 8);
        fault("twi", 0);
        fault("l", 0);
        fault("dust", 0);
        fault("le ns", 0);
    }

    static void p9NumbersGoAsLongAsTheyGo() {
        fault("lens more 9 9;", 12);
        fault("lens if 1 2 = 12 flat;", 10);
    }

    static void p9BlanksStandWhereOneLikes() {
        holds("heat=3and gap=2or(eye=0)", true);
        holds("  heat  =  3  and  ( gap  =  2 )  ", true);
        taken("   lens   flat   ;   ", 1);
        taken("lens more 3 ;twin flat;", 2);
    }

    static void p9NoOtherBlanks() {
        for (char c : new char[] {0, 9, 10, 13, 127, 160, 255}) fault("lens" + c + "flat;", 4);
    }

    static void p9SignsByTheirOwnBytesAlone() {
        for (char c : new char[] {'!', '[', '{', ':', '?', '@', ',', '.', '-', '+', '*', '/', '\\', '"', '\'', '`', '~'}) {
            fault("lens if heat " + c + " 3 flat;", 13);
            fault("lens flat" + c, 9);
        }
    }

    static void p9NamesAreOfSmallLettersAlone() {
        fault("LENS flat;", 0);
        fault("lens Flat;", 5);
        fault("lens if Heat = 1 flat;", 8);
    }

    static void p9TwoHundredBytes() {
        String rule = "lens if heat < 3 and gap = 2 or eye > 4 more 5;";
        taken(rule + BLANKS.substring(0, 199 - 2 * rule.length()) + rule + " ", 2);
        taken(BLANKS.substring(0, 200 - rule.length()) + rule, 1);
        fault(BLANKS.substring(0, 199) + ";", 199);
        fault(BLANKS.substring(0, 196) + "lens", 200);
        fault(BLANKS.substring(0, 197) + "len", 197);
        fault("lens if not" + " not".repeat(47) + " ", 200);
        taken("lens if " + "0=0 or ".repeat(26) + "0=0  flat;", 1);
    }

    static void p9SignsAtTheirEdges() {
        holds("heat < 2", false);
        holds("heat < 3", false);
        holds("heat < 4", true);
        holds("heat = 2", false);
        holds("heat = 3", true);
        holds("heat = 4", false);
        holds("heat > 2", true);
        holds("heat > 3", false);
        holds("heat > 4", false);
    }

    static void p9ValuesOnEitherSide() {
        holds("heat = 3 and 3 = heat", true);
        holds("gap = 2 and 2 = gap", true);
        holds("eye < bend and bend > eye", true);
        holds("number = 1 and 1 = number", true);
        holds("heat > gap and gap < heat", true);
        holds("eye = eye and bend = bend", true);
        holds("eye > 0", false);
        holds("0 > eye", true);
        holds("9999 < eye", false);
        holds("bend < 0", true);
    }

    private static void factAt(String fact, int what, int least, int greatest) {
        MendedTube x = Cases.bending(5);
        for (int v : new int[] {least, greatest}) {
            x.let(what, v);
            int cold = x.lensOf(0, 4);
            String condition = v < 0 ? fact + " < 0 and not " + fact + " = 0" : fact + " = " + v;
            Cases.tell(x, "lens if not (" + condition + ") flat;");
            Cases.due(fact + " " + v, cold, x.lensOf(0, 4));
            Cases.tell(x, "lens if " + condition + " less 99;");
            Cases.due(fact + " " + v, -9, x.lensOf(0, 4));
            x.rules();
        }
    }

    static void p9FactsAtTheirEnds() {
        factAt("heat", 0, 0, 9);
        factAt("gap", 1, 1, 3);
        factAt("eye", 2, -9, 9);
    }

    static void p9BendAsToldAndItsNumber() {
        MendedTube x = Cases.bending(-9, 0, 9, 1, 1, 1, 1, 1, 9);
        Cases.tell(x, "lens if bend = 9 flat;lens if bend < 0 more 1;");
        int[] due = {-8, 0, 0, 1, 1, 1, 1, 1, 0};
        for (int l = 0; l < 9; l++) Cases.due("bend, LENS " + l, due[l], x.lensOf(l, 4));
        for (int n = 0; n < 9; n++) {
            Cases.tell(x, "lens if number = " + n + " flat;");
            for (int l = 0; l < 9; l++) Cases.due("number " + n + ", LENS " + l, l == n ? 0 : x.lensOf(l, 1), x.lensOf(l, 4));
        }
    }

    static void p9NotIsOfTheNextOneAlone() {
        holds("not 1=2 and 1=2", false);
        holds("not 1=1 or 1=1", true);
        holds("not not not 1=2", true);
        holds("not (1=1 and 1=2)", true);
        holds("not (1=2 or 1=1)", false);
    }

    static void p9AndAheadOfOr() {
        holds("1=1 or 1=1 and 1=2", true);
        holds("1=2 and 1=1 or 1=1", true);
        holds("1=2 and (1=1 or 1=1)", false);
        holds("(1=1 or 1=1) and 1=2", false);
        holds("1=1 and 1=2 or 1=2 and 1=1", false);
        holds("1=2 or 1=2 and (1=1 or 1=1 and (1=1 or 1=1 and 1=1))", false);
        holds("1=2 or 1=1 and (1=2 or 1=1 and (1=2 or 1=1 and (1=2 or 1=1 and 1=1)))", true);
        holds("1=2 or 1=1 and (1=2 or 1=1 and (1=2 or 1=1 and (1=2 or 1=1 and 1=2)))", false);
    }

    static void p9OfItsKindOrAboveIt() {
        String[] names = {"lens", "scratched", "warm", "dusty", "twin", "tilted"};
        boolean[][] under = {{true, true, true, true, true}, {true, false, false, false, false},
            {false, true, true, false, false}, {false, false, true, false, false}, {false, false, false, true, true},
            {false, false, false, false, true}};
        MendedTube x = new MendedTube();
        for (int kind = 1; kind <= 5; kind++) x.lens(kind, 4, 0, 1);
        int[] plain = {2, 4, 3, 8, -8};
        int[] flat = {0, 0, -1, 0, 0};
        for (int named = 0; named < 6; named++) {
            Cases.tell(x, names[named] + " flat;");
            for (int l = 0; l < 5; l++) {
                Cases.due(names[named] + " for KIND " + (l + 1), under[named][l] ? flat[l] : plain[l], x.lensOf(l, 4));
            }
        }
    }

    static void p9TheFirstThatHolds() {
        MendedTube x = Cases.bending(5);
        Cases.tell(x, "twin more 1;warm if heat > 0 more 2;dusty more 3;lens less 4;warm flat;");
        Cases.due(1, x.lensOf(0, 4));
        x.let(0, 1);
        Cases.due(8, x.lensOf(0, 4));
    }

    static void p9NoneThatHolds() {
        MendedTube x = Cases.bending(5);
        Cases.tell(x, "twin flat;warm if 1=2 flat;dusty flat;");
        Cases.due(5, x.lensOf(0, 4));
    }

    public static void main(String[] args) throws Exception {
        Cases.run(EdgeRulesTest.class, 8, 9);
    }
}
