/** Promises 8 and 9. */
public final class RulesTest {
    private static final Due DUE = new Due("RulesTest");

    private static void promise8Feed() {
        MendedTube x = new MendedTube();
        DUE.is("8 no bytes", -1, x.feed(0, 0));
        DUE.is("8 nine bytes", -1, x.feed(0, 9));
        DUE.is("8 less than none", -1, x.feed(0, -1));
        DUE.is("8 one", 1, x.feed(' ', 1));
        for (int i = 0; i < 24; i++) x.feed(0x2020202020202020L, 8);
        DUE.is("8 how many", 193, x.many(5));
        DUE.is("8 too many", -2, x.feed(0x2020202020202020L, 8));
        DUE.is("8 just as many as can be", 200, x.feed(0x20202020202020L, 7));
        DUE.is("8 one more", -2, x.feed(' ', 1));
        DUE.is("8 BAD ahead of FULL", -1, x.feed(' ', 9));
        DUE.is("8 200 blanks tell no RULE", 0, x.rules());
        DUE.is("8 used up", 0, x.many(5));
        x.lens(4, 1, 0, 1);
        long lens = 'l' | 'e' << 8 | 'n' << 16 | (long) 's' << 24 | 0xff00000000L;
        x.feed(lens, 4);
        x.feed(' ' | 'f' << 8 | 'l' << 16 | (long) 'a' << 24 | (long) 't' << 32 | (long) ';' << 40, 6);
        DUE.is("8 the lowest first", 1, x.rules());
        DUE.is("8 told", 0, x.lensOf(0, 4));
        x.feed(0x80, 1);
        DUE.is("8 a byte above 127", -100, x.rules());
    }

    private static void fault(String text, int due) {
        MendedTube x = new MendedTube();
        x.lens(2, 5, 0, 1);
        DUE.is("9 ahead", 1, Cases.tell(x, "warm less 1;"));
        DUE.is("9 FAULT of \"" + text + "\"", -100 - due, Cases.tell(x, text));
        DUE.is("9 used up", 0, x.many(5));
        DUE.is("9 THE RULES stay", 4, x.lensOf(0, 4));
        DUE.is("9 so many stay", 1, x.many(1));
    }

    private static void promise9Faults() {
        fault("lens", 4);
        fault("lensz flat;", 0);
        fault(" ".repeat(196) + "lens", 200);
        fault(" ".repeat(197) + "len", 197);
        fault(" ".repeat(199) + "1", 199);
        fault(";".repeat(200), 0);
        fault("lens if " + "not ".repeat(48), 200);
        fault("lens if " + "(".repeat(192), 11);
        fault("lens   ", 7);
        fault("x flat;", 0);
        fault("lenses flat;", 0);
        fault("  LENS flat;", 2);
        fault("lens\nflat;", 4);
        fault("lens flat", 9);
        fault("lens flat 3;", 10);
        fault("lens flat;;", 10);
        fault("lens more;", 9);
        fault("lens more heat;", 10);
        fault("lens more 99 ;lens more 100;", 24);
        fault("lens more 00001;", 10);
        fault("lens if flat;", 8);
        fault("lens if heat flat;", 13);
        fault("lens if heat > flat;", 15);
        fault("lens if heat > 10000 flat;", 15);
        fault("lens if heat > 1 = 2 flat;", 17);
        fault("lens if heat > 1 and flat;", 21);
        fault("lens if not flat;", 12);
        fault("lens if not heat not = 1 flat;", 17);
        fault("lens if (heat > 1 flat;", 18);
        fault("lens if heat > 1) flat;", 16);
        fault("lens if () flat;", 9);
        fault("lens if ((((1=1)))) flat;", 11);
        fault("lens if (((1=1)and((1=1)))) flat;", 19);
        fault("lens if 1=1 and", 15);
        fault("lens if 1=1 if 1=1 flat;", 12);
        fault("lens lens flat;", 5);
        fault("flat;", 0);
        fault("lens flat;lens flat;lens flat;lens flat;lens flat;lens flat;lens flat;lens flat; twin flat;", 81);
    }

    private static void strength(String text, int due) {
        MendedTube x = new MendedTube();
        for (int l = 0; l < 3; l++) x.lens(2, -2, 0, 1);
        x.let(0, 3);
        x.let(1, 2);
        x.let(2, -4);
        DUE.is("9 RULES of \"" + text + "\"", 1, Cases.tell(x, text));
        DUE.is("9 STRENGTH by \"" + text + "\"", due, x.lensOf(1, 4));
    }

    /** BEND -2, HEAT 3, so STRENGTH is 1, but for a RULE that holds. */
    private static void promise9Conditions() {
        strength("warm more 4;", 5);
        strength("warm less 4;", -3);
        strength("warm flat;", 3);
        strength("warm more 99;", 9);
        strength("warm less 99;", -9);
        strength("warm more 0099;", 9);
        strength("warm more4;", 5);
        strength("  lens  more  4  ;  ", 5);
        strength("warm if 1=2" + " or 1=2".repeat(21) + " or 1=1 and 1=1 or 1=2 flat;", 3);
        strength("warm if 1=1" + " and 1=1".repeat(20) + " and 1=2 flat;", 1);
        strength("twin flat;", 1);
        strength("dusty flat;", 1);
        String[] hold = {"heat=3", "gap=2", "eye<0", "bend<0", "number=1", "0<1", "3 > 2", "9999=9999", "bend>eye",
            "not 1=2", "not not 1=1", "not(1=1 and 1=2)", "1=1 or 1=2 and 1=2", "(1=1 or 1=2)and 1=1",
            "not 1=2 or 1=1", "not(not(not(1=2)))", "1=2 or 1=2 or 1=1", "1=1 and 1=1 and 1=1", "heat>gap"};
        for (String condition : hold) strength("warm if " + condition + " flat;", 3);
        String[] hold0 = {"heat=4", "gap=1", "eye>0", "bend=2", "number=0", "1<1", "3>3", "not 1=1", "not not not 1=1",
            "not 1=1 and 1=2", "(1=1 or 1=1)and 1=2", "1=2 and 1=1 or 1=2", "1=2 or 1=1 and 1=2", "not(1=2 or 1=1)", "1=1 and 1=1 and 1=2"};
        for (String condition : hold0) strength("warm if " + condition + " flat;", 1);
    }

    private static void promise9Choice() {
        MendedTube x = new MendedTube();
        for (int kind = 1; kind <= 5; kind++) x.lens(kind, 2, 0, 1);
        String[] names = {"lens", "scratched", "warm", "dusty", "twin", "tilted"};
        int[] plain = {1, 2, 1, 4, -4};
        int[] flat = {0, 0, -1, 0, 0};
        String[] under = {"12345", "1", "23", "3", "45", "5"};
        for (int named = 0; named < 6; named++) {
            DUE.is("9 how many", 1, Cases.tell(x, names[named] + " flat;"));
            for (int kind = 1; kind <= 5; kind++) {
                boolean is = under[named].indexOf((char) ('0' + kind)) >= 0;
                DUE.is("9 of KIND " + kind + " by " + names[named], is ? flat[kind - 1] : plain[kind - 1], x.lensOf(kind - 1, 4));
            }
        }
        DUE.is("9 three", 3, Cases.tell(x, "twin if heat > 0 flat;twin more 1;lens more 2;"));
        DUE.is("9 many", 3, x.many(1));
        DUE.is("9 the first that holds", 6, x.lensOf(3, 4));
        DUE.is("9 the first above it", 2, x.lensOf(0, 4));
        x.let(0, 1);
        DUE.is("9 the first that holds", 0, x.lensOf(3, 4));
        DUE.is("9 eight", 8, Cases.tell(x, "lens flat;lens flat;lens flat;lens flat;lens flat;lens flat;lens flat;lens flat;"));
        DUE.is("9 in place of all", 0, x.rules());
        DUE.is("9 none now", 4, x.lensOf(3, 4));
    }

    public static void main(String[] args) {
        promise8Feed();
        promise9Faults();
        promise9Conditions();
        promise9Choice();
        DUE.end();
    }
}
