import java.lang.reflect.Method;
import java.util.ArrayList;
import java.util.List;
import java.util.Map;
import java.util.Random;
import java.util.TreeMap;

/** Runs of calls drawn by lot, each call made of the program and of SlowTube; the seeds are fixed. */
public final class OracleTest {
    /** How often a call is drawn, then of each number the least and the greatest that is drawn, mostly. */
    private static final Map<String, int[]> CALLS = new TreeMap<>();

    static {
        put("lens", 8, 0, 6, -10, 10, -10, 10, 0, 1000);
        put("lensOf", 8, -1, 9, -1, 6);
        put("grind", 6, -1, 9, 0, 4, -10, 10);
        put("remake", 4, -1, 9, 0, 6);
        put("setting", 2, -1, 4);
        put("let", 10, -1, 4, -10, 10);
        put("rules", 1);
        put("seen", 3, -10, 10);
        for (String s : new String[] {"shift", "blur", "wrong", "mended"}) put(s, 2);
        put("fit", 12, -1, 9, -1, 4);
        put("take", 4, -1, 4);
        put("place", 3, -1, 4, -1, 2);
        put("turn", 4, -1, 4, -1, 4);
        put("exchange", 3, -1, 4, -1, 4);
        put("price", 1);
        for (String s : new String[] {"fix", "change", "heatFor", "eyes", "pairs"}) put(s, 4);
        put("least", 3, 0, 4);
        put("pick", 4, 0, 4, -1, 3);
        put("good", 3, 0, 4);
        put("mate", 6, -1, 9);
        put("years", 3);
        put("turned", 6, 0, 21);
        put("game", 4, 0, 4);
        put("play", 4, 0, 4);
        put("report", 7, -1, 4, -1, 2);
        put("forget", 1);
        put("span", 5, -1, 3);
        put("liar", 4);
        put("seed", 1, -1000000, 1000000);
        put("draw", 4);
        put("often", 3, 0, 61);
        put("prove", 3, -10, 10);
        put("row", 6, -1, 6, -1, 3);
        put("alterRow", 3, -1, 6, -1, 3, -10, 10);
        put("judge", 6);
        put("sheet", 6, -1, 4, -2, 5, -2, 41);
        put("write", 10, -1, 4, -1, 12, -12, 12);
        put("item", 6, -1, 4, -1, 5, -1, 12);
        put("fits", 3, -1, 4, -1, 12, -1, 21);
        put("spread", 3, -1, 4, -1, 12, 0, 8);
        put("shelf", 6, -1, 4, -1, 3, -1, 9);
        put("taken", 6, -1, 4, -1, 15);
        put("act", 8, -1, 4, -1, 4, -20, 20);
        put("trace", 6, -1, 8);
        put("many", 4, -1, 7);
        put("keep", 1);
        put("again", 1);
    }

    private static void put(String name, int... numbers) {
        CALLS.put(name, numbers);
    }

    private final Random lot;
    private final MendedTube quick = new MendedTube();
    private final SlowTube slow = new SlowTube();
    private final List<String> run = new ArrayList<>();
    private final List<String> urn = new ArrayList<>();
    private final Map<String, Method[]> methods = new TreeMap<>();
    private final boolean small;

    private OracleTest(long seed) throws Exception {
        lot = new Random(seed);
        small = seed % 10 != 0;
        for (Map.Entry<String, int[]> e : CALLS.entrySet()) {
            for (int i = 0; i < e.getValue()[0]; i++) urn.add(e.getKey());
            Class<?>[] types = new Class<?>[e.getValue().length / 2];
            java.util.Arrays.fill(types, int.class);
            methods.put(e.getKey(), new Method[] {MendedTube.class.getMethod(e.getKey(), types),
                SlowTube.class.getDeclaredMethod(e.getKey(), types)});
        }
    }

    private int number(int least, int greatest) {
        if (lot.nextInt(60) == 0) {
            int[] far = {Integer.MIN_VALUE, Integer.MIN_VALUE + 9, -1000, 1000, 32768, 65536, Integer.MAX_VALUE, lot.nextInt()};
            return far[lot.nextInt(far.length)];
        }
        return least + lot.nextInt(greatest - least + 1);
    }

    private boolean same(String call, long got, long due) {
        run.add(call + " " + got);
        if (got == due) return true;
        System.out.println("due is " + due + " in the last of these:");
        for (String line : run) System.out.println("    " + line);
        return false;
    }

    private boolean call(String name) throws Exception {
        int[] numbers = CALLS.get(name);
        Object[] args = new Object[numbers.length / 2];
        for (int i = 0; i < args.length; i++) args[i] = number(numbers[2 * i + 1], numbers[2 * i + 2]);
        if (name.equals("let") && (int) args[0] == 3) args[1] = limit();
        if (name.equals("write") && lot.nextInt(4) == 0) args[2] = lot.nextInt();
        if (name.equals("act") && lot.nextInt(3) == 0) args[2] = lot.nextInt();
        if (name.equals("lens") && lot.nextInt(3) > 0) {
            args = new Object[] {1 + lot.nextInt(5), lot.nextInt(7) - 3, lot.nextInt(7) - 3, 1 + lot.nextInt(999)};
        }
        if (name.equals("lens") && small && quick.many(0) >= 5) return true;
        Method[] both = methods.get(name);
        Object got = both[0].invoke(quick, args);
        Object due = both[1].invoke(slow, args);
        return same(name + java.util.Arrays.toString(args), (int) got, (int) due);
    }

    private int limit() {
        int[] most = {4, 30, 200, 999};
        return lot.nextInt(1 + most[lot.nextInt(most.length)]);
    }

    private boolean tell() throws Exception {
        String text = new TextByLot(lot).text();
        byte[] bytes = text.getBytes(java.nio.charset.StandardCharsets.ISO_8859_1);
        for (int i = 0; i < bytes.length; ) {
            int n = Math.min(1 + lot.nextInt(8), bytes.length - i);
            long eight = lot.nextLong();
            for (int k = 7; k >= 0; k--) if (k < n) eight = eight & ~(255L << 8 * k) | (bytes[i + k] & 255L) << 8 * k;
            if (!same("feed[" + eight + ", " + n + "]", quick.feed(eight, n), slow.feed(eight, n))) return false;
            i += n;
        }
        return same("rules[] of " + text, quick.rules(), slow.rules());
    }

    private boolean all() throws Exception {
        for (int i = 0; i < 4; i++) if (!call("lens")) return false;
        while (run.size() < 450) {
            if (!(lot.nextInt(40) == 0 ? tell() : call(urn.get(lot.nextInt(urn.size()))))) return false;
        }
        return true;
    }

    public static void main(String[] args) throws Exception {
        int runs = args.length > 0 ? Integer.parseInt(args[0]) : 60;
        int from = args.length > 1 ? Integer.parseInt(args[1]) : 0;
        for (int seed = from; seed < from + runs; seed++) {
            if (!new OracleTest(seed).all()) {
                System.out.println("seed " + seed);
                System.exit(1);
            }
        }
        System.out.println(runs + " runs by lot are as due");
    }
}
