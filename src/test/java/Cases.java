import java.lang.reflect.Method;
import java.util.ArrayList;
import java.util.Comparator;
import java.util.List;
import java.util.Set;
import java.util.TreeSet;
import java.util.function.IntUnaryOperator;

/** Runs the tests of a class, one for each sentence of the document: methods named "p", a promise's number, what it says. */
final class Cases {
    private static String running = "";
    private static int asked;
    private static int wrong;
    private static int answersOfThis;

    private Cases() { }

    static void due(long due, long got) {
        due("", due, got);
    }

    static void due(String what, long due, long got) {
        asked++;
        answersOfThis++;
        if (due == got) return;
        wrong++;
        System.out.println(running + (what.isEmpty() ? "" : ", " + what) + ": answered " + got + ", due is " + due);
    }

    /** Each of the values is answered by the same. */
    static void each(long due, int[] values, IntUnaryOperator call) {
        for (int v : values) due("of " + v, due, call.applyAsInt(v));
    }

    /** Those next to the least and the greatest that are taken, and some further off, that a mask would take for one of them. */
    static int[] outside(int least, int greatest) {
        int[] near = {least - 1, greatest + 1, least - 256, greatest + 256, least + 65536, greatest - 65536,
            Integer.MIN_VALUE, Integer.MIN_VALUE + 1, Integer.MAX_VALUE - 1, Integer.MAX_VALUE,
            Integer.MIN_VALUE + greatest, Integer.MIN_VALUE - least};
        List<Integer> outside = new ArrayList<>();
        for (int v : near) if (v < least || v > greatest) outside.add(v);
        return outside.stream().mapToInt(v -> v).toArray();
    }

    /** Each of the promises has a test. */
    static void run(Class<?> tests, int firstPromise, int lastPromise) throws ReflectiveOperationException {
        Set<Integer> promises = new TreeSet<>();
        for (Method m : testsOf(tests)) promises.add(Integer.parseInt(m.getName().replaceAll("^p([0-9]+).*", "$1")));
        running = tests.getName();
        for (int p = firstPromise; p <= lastPromise; p++) due("promise " + p + " has a test", 1, promises.contains(p) ? 1 : 0);
        run(tests);
    }

    static void run(Class<?> tests) throws ReflectiveOperationException {
        List<Method> methods = testsOf(tests);
        for (Method m : methods) {
            running = tests.getName() + "." + m.getName();
            answersOfThis = 0;
            m.setAccessible(true);
            m.invoke(null);
            due("it asks something", 1, answersOfThis > 0 ? 1 : 0);
        }
        System.out.println(tests.getName() + ": " + methods.size() + " tests, " + (asked - wrong) + " of " + asked + " answers are as due");
        if (wrong > 0) System.exit(1);
    }

    private static List<Method> testsOf(Class<?> tests) {
        List<Method> methods = new ArrayList<>();
        for (Method m : tests.getDeclaredMethods()) if (m.getName().matches("p[0-9]+[A-Z].*")) methods.add(m);
        methods.sort(Comparator.comparing(Method::getName));
        return methods;
    }

    /** Bytes come to THE TAPE, as many at once as can. */
    static void feed(MendedTube x, String bytes) {
        for (int from = 0; from < bytes.length(); from += 8) {
            int n = Math.min(8, bytes.length() - from);
            long eight = 0;
            for (int i = n - 1; i >= 0; i--) eight = eight << 8 | bytes.charAt(from + i);
            x.feed(eight, n);
        }
    }

    /** What rules() answers to a text. */
    static int tell(MendedTube x, String text) {
        feed(x, text);
        return x.rules();
    }

    /** LENSES of STRENGTH 0 (KIND twin, BEND 0): they only push, by TILTS. */
    static MendedTube pushing(int... tilts) {
        MendedTube x = new MendedTube();
        for (int tilt : tilts) x.lens(4, 0, tilt, 1);
        return x;
    }

    /** LENSES of KIND warm, without a TILT: by HEAT 0 the STRENGTH of each is its BEND. */
    static MendedTube bending(int... bends) {
        MendedTube x = new MendedTube();
        for (int bend : bends) x.lens(2, bend, 0, 1);
        return x;
    }

    /** All LENSES (4 at most) come into THE TUBE, with TURN 0. */
    static MendedTube fitted(MendedTube x) {
        for (int l = 0; l < x.many(0); l++) x.fit(l, 0);
        return x;
    }
}
