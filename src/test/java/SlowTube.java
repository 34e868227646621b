import java.util.ArrayList;
import java.util.Arrays;
import java.util.Collections;
import java.util.HashMap;
import java.util.HashSet;
import java.util.List;
import java.util.Map;
import java.util.Set;
import java.util.TreeMap;

/**
 * The document's terms once more, each in the way that its words say most directly: all TUBES as lists, all
 * matchings, all games, acts as methods of classes, what the host refuses as what the Java machine throws.
 * Slow, and with nothing in common with the program; OracleTest compares the two.
 */
final class SlowTube {
    static final int BAD = -1, FULL = -2, NONE = -3, STATE = -4;

    static final class Glass {
        int kind, bend, tilt, price;

        Glass(int kind, int bend, int tilt, int price) {
            this.kind = kind;
            this.bend = bend;
            this.tilt = tilt;
            this.price = price;
        }
    }

    /** What keep() keeps. */
    static final class Shop {
        final List<Glass> glasses = new ArrayList<>();
        int heat, gap = 1, eye, limit, z = 1;
        SlowText rules = new SlowText(new int[0]);
        final List<int[]> tube = new ArrayList<>();
        final List<int[]> reports = new ArrayList<>();

        Shop copy() {
            Shop c = new Shop();
            for (Glass g : glasses) c.glasses.add(new Glass(g.kind, g.bend, g.tilt, g.price));
            c.heat = heat;
            c.gap = gap;
            c.eye = eye;
            c.limit = limit;
            c.z = z;
            c.rules = rules;
            for (int[] t : tube) c.tube.add(t.clone());
            for (int[] r : reports) c.reports.add(r.clone());
            return c;
        }

        boolean has(int l) {
            return l >= 0 && l < glasses.size();
        }

        int strength(int l) {
            Glass g = glasses.get(l);
            int b = rules.bend(g.kind, g.bend, l, heat, gap, eye);
            double s = 0;
            if (g.kind == 1) s = b / 2;
            if (g.kind == 2) s = b + heat;
            if (g.kind == 3) s = b + heat - 1;
            if (g.kind == 4) s = b + b;
            if (g.kind == 5) s = 0 - (b + b);
            return (int) (s > 9 ? 9 : s < -9 ? -9 : s);
        }

        /** ROWS of a RAY through a row of {lens, turn}; a lens below -50 is a stranger's, of STRENGTH lens + 100. */
        List<int[]> rays(List<int[]> row, int height) {
            List<int[]> rows = new ArrayList<>();
            rows.add(new int[] {-9, height, 0});
            int h = height;
            int s = 0;
            for (int[] t : row) {
                boolean strange = t[0] < -50;
                int push = strange || t[1] % 2 == 1 ? 0 : glasses.get(t[0]).tilt * (1 - t[1]);
                s += push;
                s -= (strange ? t[0] + 100 : strength(t[0])) * h;
                h += gap * s;
                rows.add(new int[] {t[0], h, s});
            }
            s -= eye * h;
            h += gap * s;
            rows.add(new int[] {9, h, s});
            return rows;
        }

        int seen(List<int[]> row, int height) {
            List<int[]> rows = rays(row, height);
            return rows.get(rows.size() - 1)[1];
        }

        int shift(List<int[]> row) {
            return Math.abs(seen(row, 0));
        }

        int blur(List<int[]> row) {
            return Math.abs(seen(row, 1) - seen(row, 0));
        }

        int wrong(List<int[]> row) {
            return shift(row) + blur(row);
        }

        boolean mended(List<int[]> row) {
            return wrong(row) <= limit;
        }

        int draw() {
            if (tube.isEmpty()) return NONE;
            z = z * 1103515245 + 12345;
            int p = (z >>> 16) % tube.size();
            tube.get(p)[1] = (tube.get(p)[1] + 1) % 4;
            return p;
        }
    }

    Shop shop = new Shop();
    Shop kept;
    final List<Integer> tape = new ArrayList<>();
    List<int[]> rows = new ArrayList<>();
    final Object[] sheets = new Object[4];
    final Object[] shelves = new Object[4];
    List<Integer> trace = new ArrayList<>();

    int lens(int kind, int bend, int tilt, int price) {
        if (kind < 1 || kind > 5 || bend < -9 || bend > 9 || tilt < -9 || tilt > 9 || price < 1 || price > 999) return BAD;
        if (shop.glasses.size() == 9) return FULL;
        shop.glasses.add(new Glass(kind, bend, tilt, price));
        return shop.glasses.size() - 1;
    }

    int lensOf(int l, int what) {
        if (!shop.has(l) || what < 0 || what > 5) return BAD;
        Glass g = shop.glasses.get(l);
        int at = -9;
        for (int p = 0; p < shop.tube.size(); p++) if (shop.tube.get(p)[0] == l) at = p;
        return new int[] {g.kind, g.bend, g.tilt, g.price, shop.strength(l), at}[what];
    }

    int grind(int l, int what, int v) {
        if (!shop.has(l) || what < 1 || what > 3) return BAD;
        if (what < 3 ? v < -9 || v > 9 : v < 1 || v > 999) return BAD;
        Glass g = shop.glasses.get(l);
        int was = lensOf(l, what);
        if (what == 1) g.bend = v;
        if (what == 2) g.tilt = v;
        if (what == 3) g.price = v;
        return was != v ? 1 : 0;
    }

    int remake(int l, int kind) {
        if (!shop.has(l) || kind < 1 || kind > 5) return BAD;
        int was = shop.glasses.get(l).kind;
        shop.glasses.get(l).kind = kind;
        return was;
    }

    int setting(int what) {
        if (what < 0 || what > 3) return BAD;
        return new int[] {shop.heat, shop.gap, shop.eye, shop.limit}[what];
    }

    int let(int what, int v) {
        if (what < 0 || what > 3) return BAD;
        int was = setting(what);
        if (what == 0) {
            if (v < 0 || v > 9) return BAD;
            shop.heat = v;
        } else if (what == 1) {
            if (v < 1 || v > 3) return BAD;
            shop.gap = v;
        } else if (what == 2) {
            if (v < -9 || v > 9) return BAD;
            shop.eye = v;
        } else {
            if (v < 0 || v > 999) return BAD;
            shop.limit = v;
        }
        return was == v ? 0 : 1;
    }

    int feed(long eight, int n) {
        if (n < 1 || n > 8) return BAD;
        if (tape.size() + n > 200) return FULL;
        long left = eight;
        for (int i = 0; i < n; i++) {
            tape.add((int) (left & 255));
            left >>= 8;
        }
        return tape.size();
    }

    int rules() {
        int[] bytes = tape.stream().mapToInt(b -> b).toArray();
        tape.clear();
        SlowText t = new SlowText(bytes);
        if (t.fault >= 0) return -100 - t.fault;
        shop.rules = t;
        return t.rules.size();
    }

    int seen(int height) {
        return height < -9 || height > 9 ? BAD : shop.seen(shop.tube, height);
    }

    int shift() {
        return shop.shift(shop.tube);
    }

    int blur() {
        return shop.blur(shop.tube);
    }

    int wrong() {
        return shop.wrong(shop.tube);
    }

    int mended() {
        return shop.mended(shop.tube) ? 1 : 0;
    }

    int fit(int l, int turn) {
        if (!shop.has(l) || turn < 0 || turn > 3) return BAD;
        if (shop.tube.size() == 4) return FULL;
        for (int[] t : shop.tube) if (t[0] == l) return STATE;
        shop.tube.add(new int[] {l, turn});
        return shop.tube.size() - 1;
    }

    boolean hasPlace(int p) {
        return p >= 0 && p < shop.tube.size();
    }

    int take(int p) {
        return hasPlace(p) ? shop.tube.remove(p)[0] : BAD;
    }

    int place(int p, int what) {
        return hasPlace(p) && (what == 0 || what == 1) ? shop.tube.get(p)[what] : BAD;
    }

    int turn(int p, int turn) {
        if (!hasPlace(p) || turn < 0 || turn > 3) return BAD;
        int was = shop.tube.get(p)[1];
        shop.tube.get(p)[1] = turn;
        return was;
    }

    int exchange(int p, int q) {
        if (!hasPlace(p) || !hasPlace(q)) return BAD;
        Collections.swap(shop.tube, p, q);
        return p == q ? 0 : 1;
    }

    int price() {
        return shop.tube.stream().mapToInt(t -> shop.glasses.get(t[0]).price).sum();
    }

    /** Of answers with their WRONG: the one of least WRONG, if that is less than now; of several the least. */
    private int mendsMost(TreeMap<Integer, Integer> wrongs) {
        int best = NONE;
        int least = wrong();
        for (Map.Entry<Integer, Integer> e : wrongs.entrySet()) {
            if (e.getValue() < least) {
                least = e.getValue();
                best = e.getKey();
            }
        }
        return best;
    }

    int fix() {
        TreeMap<Integer, Integer> wrongs = new TreeMap<>();
        for (int p = 0; p < shop.tube.size(); p++) {
            for (int t = 0; t < 4; t++) {
                Shop s = shop.copy();
                s.tube.get(p)[1] = t;
                wrongs.put(10 * p + t, s.wrong(s.tube));
            }
        }
        return mendsMost(wrongs);
    }

    int change() {
        TreeMap<Integer, Integer> wrongs = new TreeMap<>();
        for (int p = 0; p < shop.tube.size(); p++) {
            for (int q = p + 1; q < shop.tube.size(); q++) {
                Shop s = shop.copy();
                Collections.swap(s.tube, p, q);
                wrongs.put(10 * p + q, s.wrong(s.tube));
            }
        }
        return mendsMost(wrongs);
    }

    int heatFor() {
        Shop s = shop.copy();
        for (s.heat = 0; s.heat <= 9; s.heat++) if (s.mended(s.tube)) return s.heat;
        return NONE;
    }

    int eyes() {
        Shop s = shop.copy();
        int count = 0;
        for (s.eye = -9; s.eye <= 9; s.eye++) if (s.mended(s.tube)) count++;
        return count;
    }

    /** All TUBES of n, in no order that matters. */
    private List<List<int[]>> tubes(int n) {
        List<List<int[]>> all = new ArrayList<>();
        if (n == 0) {
            all.add(new ArrayList<>());
            return all;
        }
        for (List<int[]> shorter : tubes(n - 1)) {
            for (int l = shop.glasses.size() - 1; l >= 0; l--) {
                boolean twice = false;
                for (int[] t : shorter) twice |= t[0] == l;
                for (int t = 0; t < 4 && !twice; t++) {
                    List<int[]> longer = new ArrayList<>(shorter);
                    longer.add(new int[] {l, t});
                    all.add(longer);
                }
            }
        }
        return all;
    }

    private static int code(List<int[]> tube) {
        int code = 0;
        for (int[] t : tube) code = 100 * code + 10 * t[0] + t[1];
        return code;
    }

    private List<int[]> firstOfLeast(int n) {
        List<int[]> first = null;
        int least = 0;
        for (List<int[]> tube : tubes(n)) {
            int wrong = shop.wrong(tube);
            if (first == null || wrong < least || wrong == least && code(tube) < code(first)) {
                first = tube;
                least = wrong;
            }
        }
        return first;
    }

    int least(int n) {
        if (n < 1 || n > 3) return BAD;
        List<int[]> first = firstOfLeast(n);
        return first == null ? NONE : shop.wrong(first);
    }

    int pick(int n, int i) {
        if (n < 1 || n > 3 || i < 0 || i >= n) return BAD;
        List<int[]> first = firstOfLeast(n);
        return first == null ? NONE : 10 * first.get(i)[0] + first.get(i)[1];
    }

    int good(int n) {
        if (n < 1 || n > 3) return BAD;
        int good = 0;
        for (List<int[]> tube : tubes(n)) if (shop.mended(tube)) good++;
        return good;
    }

    /** All rows of partners (9: none), by what two lenses are MENDED together. */
    private void matchings(boolean[][] pair, int[] partners, int l, List<int[]> all) {
        if (l == partners.length) {
            all.add(partners.clone());
            return;
        }
        matchings(pair, partners, l + 1, all);
        for (int m = 0; m < l; m++) {
            if (!pair[l][m] || partners[m] != 9 || partners[l] != 9) continue;
            partners[l] = m;
            partners[m] = l;
            matchings(pair, partners, l + 1, all);
            partners[l] = 9;
            partners[m] = 9;
        }
    }

    private static int pairsIn(int[] partners) {
        int alone = 0;
        for (int m : partners) if (m == 9) alone++;
        return (partners.length - alone) / 2;
    }

    private int[] match() {
        int n = shop.glasses.size();
        boolean[][] pair = new boolean[n][n];
        for (List<int[]> tube : tubes(2)) {
            if (!shop.mended(tube)) continue;
            pair[tube.get(0)[0]][tube.get(1)[0]] = true;
            pair[tube.get(1)[0]][tube.get(0)[0]] = true;
        }
        int[] partners = new int[n];
        Arrays.fill(partners, 9);
        List<int[]> all = new ArrayList<>();
        matchings(pair, partners, 0, all);
        int[] best = all.get(0);
        for (int[] m : all) {
            int more = pairsIn(m) - pairsIn(best);
            if (more > 0 || more == 0 && Arrays.compare(m, best) < 0) best = m;
        }
        return best;
    }

    int pairs() {
        return pairsIn(match());
    }

    int mate(int l) {
        if (!shop.has(l)) return BAD;
        int m = match()[l];
        return m == 9 ? NONE : m;
    }

    /** The first of the ways in which it lasts longest, as long as the years but the first; null: 0 years. */
    private String firstWay() {
        int n = shop.tube.size();
        Map<String, String> wayTo = new HashMap<>();
        StringBuilder turns = new StringBuilder();
        for (int[] t : shop.tube) turns.append(t[1]);
        if (shop.mended(shop.tube)) wayTo.put(turns.toString(), "");
        if (wayTo.isEmpty()) return null;
        for (int year = 1; year <= 20; year++) {
            Shop s = shop.copy();
            s.eye = Math.min(9, s.eye + year);
            Map<String, String> next = new HashMap<>();
            for (Map.Entry<String, String> e : wayTo.entrySet()) {
                for (int p = 0; p <= 4; p++) {
                    if (p >= n && p != 4) continue;
                    char[] to = e.getKey().toCharArray();
                    if (p < n) to[p] = to[p] == '3' ? '0' : (char) (to[p] + 1);
                    for (int q = 0; q < n; q++) s.tube.get(q)[1] = to[q] - '0';
                    if (s.mended(s.tube)) {
                        next.merge(new String(to), e.getValue() + p, (a, b) -> a.compareTo(b) < 0 ? a : b);
                    }
                }
            }
            if (next.isEmpty()) break;
            wayTo = next;
        }
        return Collections.min(wayTo.values());
    }

    int years() {
        String way = firstWay();
        return way == null ? 0 : way.length() + 1;
    }

    int turned(int year) {
        if (year < 1 || year > 20) return BAD;
        String way = firstWay();
        return way == null || way.length() < year ? NONE : way.charAt(year - 1) - '0';
    }

    private List<int[]> moves(List<int[]> tube) {
        List<int[]> moves = new ArrayList<>();
        Set<Integer> there = new HashSet<>();
        for (int[] t : tube) there.add(t[0]);
        if (tube.size() == 4) return moves;
        for (int l = 0; l < shop.glasses.size(); l++) {
            for (int t = 0; t < 4 && !there.contains(l); t++) moves.add(new int[] {l, t});
        }
        return moves;
    }

    private boolean wins(List<int[]> tube, int left, boolean firstPuts) {
        List<int[]> moves = moves(tube);
        if (left == 0 || moves.isEmpty()) return shop.mended(tube);
        int winning = 0;
        for (int[] move : moves) {
            List<int[]> longer = new ArrayList<>(tube);
            longer.add(move);
            if (wins(longer, left - 1, !firstPuts)) winning++;
        }
        return firstPuts ? winning > 0 : winning == moves.size();
    }

    int game(int n) {
        return n < 1 || n > 3 ? BAD : wins(shop.tube, n, true) ? 1 : 0;
    }

    int play(int n) {
        if (n < 1 || n > 3) return BAD;
        boolean told = wins(shop.tube, n, true);
        for (int[] move : moves(shop.tube)) {
            List<int[]> longer = new ArrayList<>(shop.tube);
            longer.add(move);
            if (wins(longer, n - 1, false) == told) return 10 * move[0] + move[1];
        }
        return NONE;
    }

    int report(int p, int was) {
        if (p < 0 || p > 3 || was < 0 || was > 1) return BAD;
        if (shop.reports.size() == 6) return FULL;
        shop.reports.add(new int[] {p, was});
        return shop.reports.size() - 1;
    }

    int forget() {
        int were = shop.reports.size();
        shop.reports.clear();
        return were;
    }

    private List<Integer> fitting(int leftOut) {
        List<Integer> fit = new ArrayList<>();
        for (int b = -9; b <= 9; b++) {
            boolean all = true;
            for (int r = 0; r < shop.reports.size(); r++) {
                int[] report = shop.reports.get(r);
                if (r == leftOut) continue;
                if (report[0] >= shop.tube.size()) {
                    all = false;
                    continue;
                }
                Shop s = shop.copy();
                s.tube.set(report[0], new int[] {b - 100, 0});
                all &= s.mended(s.tube) == (report[1] == 1);
            }
            if (all) fit.add(b);
        }
        return fit;
    }

    int span(int what) {
        if (what < 0 || what > 2) return BAD;
        List<Integer> fit = fitting(-1);
        if (what == 0) return fit.size();
        if (fit.isEmpty()) return NONE;
        return 10 + (what == 1 ? Collections.min(fit) : Collections.max(fit));
    }

    int liar() {
        if (!fitting(-1).isEmpty()) return NONE;
        for (int r = 0; r < shop.reports.size(); r++) if (!fitting(r).isEmpty()) return r;
        return NONE;
    }

    int seed(int v) {
        int was = shop.z;
        shop.z = v;
        return was;
    }

    int draw() {
        return shop.draw();
    }

    int often(int n) {
        if (n < 1 || n > 60) return BAD;
        Shop s = shop.copy();
        int count = 0;
        for (int i = 0; i < n; i++) if (s.draw() != NONE && s.mended(s.tube)) count++;
        return count;
    }

    int prove(int height) {
        if (height < -9 || height > 9) return BAD;
        rows = shop.rays(shop.tube, height);
        return rows.size();
    }

    int row(int k, int what) {
        return k < 0 || k >= rows.size() || what < 0 || what > 2 ? -9 : rows.get(k)[what];
    }

    int alterRow(int k, int what, int v) {
        if (k < 0 || k >= rows.size() || what < 0 || what > 2) return 0;
        int was = rows.get(k)[what];
        rows.get(k)[what] = v;
        return was == v ? 1 : 2;
    }

    int judge() {
        if (rows.isEmpty()) return 0;
        int[] first = rows.get(0);
        if (first[0] != -9 || first[1] < -9 || first[1] > 9 || first[2] != 0) return 1;
        List<int[]> due = shop.rays(shop.tube, first[1]);
        for (int k = 1; k < rows.size(); k++) {
            if (k >= due.size() || !Arrays.equals(rows.get(k), due.get(k))) return k + 1;
        }
        return rows.size() < due.size() ? rows.size() : 0;
    }

    int sheet(int sheet, int sort, int n) {
        if (sheet < 0 || sheet > 3 || sort < -1 || sort > 4 || sort != -1 && n > 40) return BAD;
        try {
            sheets[sheet] = switch (sort) {
                case 0 -> new byte[n];
                case 1 -> new short[n];
                case 2 -> new int[n];
                case 3 -> new long[n];
                case 4 -> new boolean[n];
                default -> null;
            };
            return 1;
        } catch (NegativeArraySizeException e) {
            return -14;
        }
    }

    int write(int sheet, int i, int v) {
        if (sheet < 0 || sheet > 3) return BAD;
        Object row = sheets[sheet];
        try {
            if (row == null) return -11;
            if (row instanceof byte[] b) b[i] = (byte) v;
            if (row instanceof short[] s) s[i] = (short) v;
            if (row instanceof int[] n) n[i] = v;
            if (row instanceof long[] l) l[i] = v;
            if (row instanceof boolean[] b) b[i] = v != 0;
            return 1;
        } catch (ArrayIndexOutOfBoundsException e) {
            return -12;
        }
    }

    int item(int sheet, int sort, int i) {
        if (sheet < 0 || sheet > 3 || sort < 0 || sort > 4) return BAD;
        Object row = sheets[sheet];
        try {
            return switch (sort) {
                case 0 -> ((byte[]) row)[i];
                case 1 -> ((short[]) row)[i];
                case 2 -> ((int[]) row)[i];
                case 3 -> (int) ((long[]) row)[i];
                default -> ((boolean[]) row)[i] ? 1 : 0;
            };
        } catch (ClassCastException e) {
            return -13;
        } catch (NullPointerException e) {
            return -11;
        } catch (ArrayIndexOutOfBoundsException e) {
            return -12;
        }
    }

    int fits(int sheet, int i, int n) {
        if (sheet < 0 || sheet > 3 || n < 0 || n > 20) return BAD;
        int came = 0;
        try {
            byte[] row = ((byte[]) sheets[sheet]).clone();
            for (int k = 0; k < n; k++) if (fit(row[i + k], 0) >= 0) came++;
            return came;
        } catch (ClassCastException e) {
            return -13;
        } catch (NullPointerException e) {
            return -11;
        } catch (ArrayIndexOutOfBoundsException e) {
            return -12;
        }
    }

    int spread(int sheet, int i, int n) {
        if (sheet < 0 || sheet > 3 || n < 1 || n > 20) return BAD;
        try {
            byte[] row = (byte[]) sheets[sheet];
            List<Integer> seen = new ArrayList<>();
            for (int k = 0; k < n; k++) {
                if (row[i + k] < -9 || row[i + k] > 9) return STATE;
                seen.add(shop.seen(shop.tube, row[i + k]));
            }
            return Collections.max(seen) - Collections.min(seen);
        } catch (ClassCastException e) {
            return -13;
        } catch (NullPointerException e) {
            return -11;
        } catch (ArrayIndexOutOfBoundsException e) {
            return -12;
        }
    }

    int shelf(int shelf, int what, int n) {
        if (shelf < 0 || shelf > 3) return BAD;
        if (what == 0 && shop.has(n)) shelves[shelf] = n;
        else if (what == 1 && n >= 0 && n < 4) shelves[shelf] = sheets[n];
        else if (what == 2) shelves[shelf] = null;
        else return BAD;
        return 1;
    }

    /** What a SHELF holds at the time: a Thing, a row, or null. */
    private Object held(int shelf) {
        if (!(shelves[shelf] instanceof Integer l)) return shelves[shelf];
        if (!shop.has(l)) return null;
        Glass g = shop.glasses.get(l);
        Thing t = switch (g.kind) {
            case 1 -> new Scratched();
            case 2 -> new Warm();
            case 3 -> new Dusty();
            case 4 -> new Twin();
            default -> new Tilted();
        };
        t.n = l;
        t.a = g.bend;
        t.ran = trace;
        return t;
    }

    int taken(int shelf, int as) {
        if (shelf < 0 || shelf > 3 || as < 0 || as > 14 || as > 5 && as < 10) return BAD;
        Object o = held(shelf);
        try {
            return switch (as) {
                case 0 -> ((Thing) o).n;
                case 1 -> ((Scratched) o).n;
                case 2 -> ((Warm) o).n;
                case 3 -> ((Dusty) o).n;
                case 4 -> ((Twin) o).n;
                case 5 -> ((Tilted) o).n;
                case 10 -> ((byte[]) o).length;
                case 11 -> ((short[]) o).length;
                case 12 -> ((int[]) o).length;
                case 13 -> ((long[]) o).length;
                default -> ((boolean[]) o).length;
            };
        } catch (ClassCastException e) {
            return -13;
        } catch (NullPointerException e) {
            return -11;
        }
    }

    int act(int shelf, int act, int x) {
        trace = new ArrayList<>();
        if (shelf < 0 || shelf > 3 || act < 0 || act > 3 || !(held(shelf) instanceof Thing t)) return 0;
        try {
            return switch (act) {
                case 0 -> t.dims(x);
                case 1 -> t.widens(x);
                case 2 -> t.parts(x);
                default -> t.tells(x);
            };
        } catch (ArithmeticException e) {
            return -15;
        }
    }

    int trace(int i) {
        return i < 0 || i >= Math.min(30, trace.size()) ? NONE : trace.get(i);
    }

    int many(int what) {
        if (what < 0 || what > 6) return BAD;
        return new int[] {shop.glasses.size(), shop.rules.rules.size(), shop.tube.size(), shop.reports.size(),
            rows.size(), tape.size(), Math.min(30, trace.size())}[what];
    }

    int keep() {
        kept = shop.copy();
        return 1;
    }

    int again() {
        if (kept == null) return NONE;
        shop = kept.copy();
        return shop.glasses.size();
    }

    static class Thing {
        int n, a;
        List<Integer> ran;

        int dims(int x) {
            ran.add(10);
            return x + a;
        }

        int widens(int x) {
            ran.add(11);
            return dims(x) * 2;
        }

        int parts(int x) {
            ran.add(12);
            return x / (a - n);
        }

        int tells(int x) {
            ran.add(13);
            return widens(x) ^ n;
        }
    }

    static final class Scratched extends Thing {
        @Override int dims(int x) {
            ran.add(20);
            return super.dims(x) ^ n;
        }
    }

    static class Warm extends Thing {
        @Override int widens(int x) {
            ran.add(30);
            return super.widens(x) - a;
        }
    }

    static class Twin extends Thing {
        @Override int parts(int x) {
            ran.add(40);
            return super.parts(x * 2);
        }
    }

    static final class Dusty extends Warm {
        @Override int dims(int x) {
            ran.add(50);
            return super.dims(x) + 1;
        }

        @Override int tells(int x) {
            ran.add(51);
            return super.tells(x) + parts(n);
        }
    }

    static final class Tilted extends Twin {
        @Override int widens(int x) {
            ran.add(60);
            return 0 - super.widens(x);
        }

        @Override int parts(int x) {
            ran.add(61);
            return super.parts(x) - dims(n);
        }
    }
}
