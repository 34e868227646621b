import java.util.Arrays;

/** A tube of wrong lenses, chosen, put in an order and turned so that they undo each other. */
public final class MendedTube {
    public static final int BAD = -1, FULL = -2, NONE = -3, STATE = -4;

    /** What the host refuses. */
    private static final int NOTHING = -11, OUTSIDE = -12, OTHER_SORT = -13, BELOW_ZERO = -14, PARTED_BY_ZERO = -15;

    private static final int LENSES = 9, PLACES = 4, TURNS = 4, REPORTS = 6, MOST_PUT = 3, DRAWS = 60;
    private static final int SMALL = 9, PRICES = 999, NOWHERE = -9;

    private static final int PLAIN = 0, SCRATCHED = 1, WARM = 2, DUSTY = 3, TWIN = 4, TILTED = 5;
    /** The KIND right above each KIND. */
    private static final int[] ABOVE = {-1, PLAIN, PLAIN, WARM, PLAIN, TWIN};

    private static final int HEAT = 0, GAP = 1, EYE = 2, LIMIT = 3, SETTINGS = 4;
    private static final int[] LEAST_SETTING = {0, 1, -9, 0};
    private static final int[] GREATEST_SETTING = {9, 3, 9, 999};

    private static final int TAPE = 200, RULES = 8, EIGHT = 8;

    private static final int FIRST_ROW = -9, EYE_ROW = 9, ROW_WIDTH = 3, ROWS = PLACES + 2;

    private static final int SHEETS = 4, SHELVES = 4, ITEMS = 40, MOST_ITEMS = 20, TRACED = 30;
    private static final int MISSING = -1, BYTES = 0, SHORTS = 1, INTS = 2, LONGS = 3, BOOLEANS = 4, ROW_AS = 10;

    private final Bench now = new Bench();
    private final Bench kept = new Bench();
    private boolean isKept;
    /** Where "if it were told so" is tried, so that what is asked changes nothing. */
    private final Bench trial = new Bench();

    private final Text text = new Text();
    private final Light light = new Light();
    private final Heap heap = new Heap(light);
    private final Contest contest = new Contest(light);
    private final Ageing ageing = new Ageing(light);
    private final int[] bendsOfReport = new int[REPORTS];

    private final int[] rows = new int[ROWS * ROW_WIDTH];
    private int rowCount;

    private final Sheet[] sheets = new Sheet[SHEETS];
    private final Sheet[] shelfSheet = new Sheet[SHELVES];
    private final int[] shelfLens = new int[SHELVES];
    private final Deed deed = new Deed();

    public MendedTube() {
        Arrays.fill(shelfLens, MISSING);
    }

    // ---- lenses

    public int lens(int kind, int bend, int tilt, int price) {
        if (!isMadeKind(kind) || !isSmall(bend) || !isSmall(tilt) || !isWithin(price, 1, PRICES)) return BAD;
        if (now.lenses >= LENSES) return FULL;
        int l = now.lenses;
        now.kind[l] = kind;
        now.bend[l] = bend;
        now.tilt[l] = tilt;
        now.price[l] = price;
        now.lenses++;
        return l;
    }

    public int lensOf(int l, int what) {
        if (!now.hasLens(l)) return BAD;
        switch (what) {
            case 0: return now.kind[l];
            case 1: return now.bend[l];
            case 2: return now.tilt[l];
            case 3: return now.price[l];
            case 4: light.load(now); return light.strength[l];
            case 5: return now.placeOf(l);
            default: return BAD;
        }
    }

    public int grind(int l, int what, int v) {
        if (!now.hasLens(l)) return BAD;
        switch (what) {
            case 1: return isSmall(v) ? store(now.bend, l, v) : BAD;
            case 2: return isSmall(v) ? store(now.tilt, l, v) : BAD;
            case 3: return isWithin(v, 1, PRICES) ? store(now.price, l, v) : BAD;
            default: return BAD;
        }
    }

    public int remake(int l, int kind) {
        if (!now.hasLens(l) || !isMadeKind(kind)) return BAD;
        int was = now.kind[l];
        now.kind[l] = kind;
        return was;
    }

    public int setting(int what) {
        return isWithin(what, 0, SETTINGS - 1) ? now.setting[what] : BAD;
    }

    public int let(int what, int v) {
        if (!isWithin(what, 0, SETTINGS - 1)) return BAD;
        if (!isWithin(v, LEAST_SETTING[what], GREATEST_SETTING[what])) return BAD;
        return store(now.setting, what, v);
    }

    // ---- the rules

    public int feed(long eight, int n) {
        if (!isWithin(n, 1, EIGHT)) return BAD;
        if (text.length + n > TAPE) return FULL;
        for (int i = 0; i < n; i++) text.append((int) (eight >>> (8 * i)) & 255);
        return text.length;
    }

    public int rules() {
        Rules told = text.told();
        text.length = 0;
        if (told == null) return -100 - text.fault;
        now.rules = told;
        return told.count;
    }

    // ---- rays

    public int seen(int height) {
        if (!isSmall(height)) return BAD;
        shine();
        return light.seenOf(height);
    }

    public int shift() {
        shine();
        return light.shiftSeen();
    }

    public int blur() {
        shine();
        return light.blurSeen();
    }

    public int wrong() {
        shine();
        return light.wrongSeen();
    }

    public int mended() {
        shine();
        return light.isMended() ? 1 : 0;
    }

    // ---- the tube

    public int fit(int l, int turn) {
        if (!now.hasLens(l) || !isTurn(turn)) return BAD;
        if (now.places >= PLACES) return FULL;
        if (now.placeOf(l) != NOWHERE) return STATE;
        int p = now.places;
        now.lens[p] = l;
        now.turn[p] = turn;
        now.places++;
        return p;
    }

    public int take(int p) {
        if (!now.hasPlace(p)) return BAD;
        int l = now.lens[p];
        for (int q = p + 1; q < now.places; q++) {
            now.lens[q - 1] = now.lens[q];
            now.turn[q - 1] = now.turn[q];
        }
        now.places--;
        return l;
    }

    public int place(int p, int what) {
        if (!now.hasPlace(p)) return BAD;
        switch (what) {
            case 0: return now.lens[p];
            case 1: return now.turn[p];
            default: return BAD;
        }
    }

    public int turn(int p, int turn) {
        if (!now.hasPlace(p) || !isTurn(turn)) return BAD;
        int was = now.turn[p];
        now.turn[p] = turn;
        return was;
    }

    public int exchange(int p, int q) {
        if (!now.hasPlace(p) || !now.hasPlace(q)) return BAD;
        now.swap(p, q);
        return p == q ? 0 : 1;
    }

    public int price() {
        int sum = 0;
        for (int p = 0; p < now.places; p++) sum += now.price[now.lens[p]];
        return sum;
    }

    public int fix() {
        shine();
        trial.become(now);
        int least = light.wrongSeen();
        int best = NONE;
        for (int p = 0; p < now.places; p++) {
            for (int t = 0; t < TURNS; t++) {
                trial.turn[p] = t;
                light.through(trial);
                if (light.wrongSeen() < least) {
                    least = light.wrongSeen();
                    best = 10 * p + t;
                }
            }
            trial.turn[p] = now.turn[p];
        }
        return best;
    }

    public int change() {
        shine();
        trial.become(now);
        int least = light.wrongSeen();
        int best = NONE;
        for (int p = 0; p < now.places; p++) {
            for (int q = p + 1; q < now.places; q++) {
                trial.swap(p, q);
                light.through(trial);
                trial.swap(p, q);
                if (light.wrongSeen() < least) {
                    least = light.wrongSeen();
                    best = 10 * p + q;
                }
            }
        }
        return best;
    }

    public int heatFor() {
        trial.become(now);
        for (int heat = 0; heat <= GREATEST_SETTING[HEAT]; heat++) {
            if (isMendedWith(HEAT, heat)) return heat;
        }
        return NONE;
    }

    public int eyes() {
        trial.become(now);
        int count = 0;
        for (int eye = LEAST_SETTING[EYE]; eye <= GREATEST_SETTING[EYE]; eye++) {
            if (isMendedWith(EYE, eye)) count++;
        }
        return count;
    }

    // ---- from the heap

    public int least(int n) {
        if (!isPut(n)) return BAD;
        if (now.lenses < n) return NONE;
        heap.lookAtTubes(now, n);
        return heap.leastWrong;
    }

    public int pick(int n, int i) {
        if (!isPut(n) || !isWithin(i, 0, n - 1)) return BAD;
        if (now.lenses < n) return NONE;
        heap.lookAtTubes(now, n);
        return 10 * heap.firstLens[i] + heap.firstTurn[i];
    }

    public int good(int n) {
        if (!isPut(n)) return BAD;
        heap.lookAtTubes(now, n);
        return heap.mendedTubes;
    }

    public int pairs() {
        heap.match(now);
        return heap.mostPairs;
    }

    public int mate(int l) {
        if (!now.hasLens(l)) return BAD;
        heap.match(now);
        return heap.matched[l];
    }

    public int years() {
        return ageing.lasting(now);
    }

    public int turned(int year) {
        if (!isWithin(year, 1, Ageing.YEARS - 1)) return BAD;
        if (ageing.lasting(now) <= year) return NONE;
        return ageing.placeTurned(year);
    }

    // ---- a game, a stranger, lots

    public int game(int n) {
        if (!isPut(n)) return BAD;
        contest.open(now, n);
        return contest.firstWins(0) ? 1 : 0;
    }

    public int play(int n) {
        if (!isPut(n)) return BAD;
        contest.open(now, n);
        return contest.firstMove();
    }

    public int report(int p, int was) {
        if (!isWithin(p, 0, PLACES - 1) || !isWithin(was, 0, 1)) return BAD;
        if (now.reports >= REPORTS) return FULL;
        int r = now.reports;
        now.reportPlace[r] = p;
        now.reportWas[r] = was;
        now.reports++;
        return r;
    }

    public int forget() {
        int were = now.reports;
        now.reports = 0;
        return were;
    }

    public int span(int what) {
        if (!isWithin(what, 0, 2)) return BAD;
        findBends();
        int set = bendsThatFit(NONE);
        if (what == 0) return Integer.bitCount(set);
        if (set == 0) return NONE;
        return 10 + (what == 1 ? leastBend(set) : greatestBend(set));
    }

    public int liar() {
        findBends();
        if (bendsThatFit(NONE) != 0) return NONE;
        for (int r = 0; r < now.reports; r++) {
            if (bendsThatFit(r) != 0) return r;
        }
        return NONE;
    }

    public int seed(int v) {
        int was = now.z;
        now.z = v;
        return was;
    }

    public int draw() {
        return now.drawn();
    }

    public int often(int n) {
        if (!isWithin(n, 1, DRAWS)) return BAD;
        trial.become(now);
        light.load(trial);
        int count = 0;
        for (int i = 0; i < n; i++) {
            if (trial.drawn() == NONE) return 0;
            light.through(trial);
            if (light.isMended()) count++;
        }
        return count;
    }

    // ---- rows

    public int prove(int height) {
        if (!isSmall(height)) return BAD;
        shine();
        rowCount = now.places + 2;
        for (int k = 0; k < rowCount; k++) {
            rows[ROW_WIDTH * k] = dueThrough(k);
            rows[ROW_WIDTH * k + 1] = light.heightAt(k, height);
            rows[ROW_WIDTH * k + 2] = light.slopeAt(k, height);
        }
        return rowCount;
    }

    public int row(int k, int what) {
        return isInRows(k, what) ? rows[ROW_WIDTH * k + what] : NOWHERE;
    }

    public int alterRow(int k, int what, int v) {
        return isInRows(k, what) ? 1 + store(rows, ROW_WIDTH * k + what, v) : 0;
    }

    public int judge() {
        if (rowCount == 0) return 0;
        int height = rows[1];
        if (rows[0] != FIRST_ROW || !isSmall(height) || rows[2] != 0) return 1;
        shine();
        for (int k = 1; k < rowCount; k++) {
            if (!isRightRow(k, height)) return k + 1;
        }
        return 0;
    }

    // ---- the host

    public int sheet(int sheet, int sort, int n) {
        if (!isSheet(sheet)) return BAD;
        if (sort == MISSING) {
            sheets[sheet] = null;
            return 1;
        }
        if (!isSort(sort) || n > ITEMS) return BAD;
        if (n < 0) return BELOW_ZERO;
        sheets[sheet] = new Sheet(sort, n);
        return 1;
    }

    public int write(int sheet, int i, int v) {
        if (!isSheet(sheet)) return BAD;
        Sheet s = sheets[sheet];
        if (s == null) return NOTHING;
        if (!s.hasItem(i)) return OUTSIDE;
        s.items[i] = s.narrowed(v);
        return 1;
    }

    public int item(int sheet, int sort, int i) {
        if (!isSheet(sheet) || !isSort(sort)) return BAD;
        Sheet s = sheets[sheet];
        if (s == null) return NOTHING;
        if (s.sort != sort) return OTHER_SORT;
        return s.hasItem(i) ? s.items[i] : OUTSIDE;
    }

    public int fits(int sheet, int i, int n) {
        if (!isSheet(sheet) || !isWithin(n, 0, MOST_ITEMS)) return BAD;
        Sheet s = sheets[sheet];
        if (s == null) return NOTHING;
        if (s.sort != BYTES) return OTHER_SORT;
        int came = 0;
        for (int k = 0; k < n; k++) {
            if (!s.hasItem(i + k)) return OUTSIDE;
            if (fit(s.items[i + k], 0) >= 0) came++;
        }
        return came;
    }

    public int spread(int sheet, int i, int n) {
        if (!isSheet(sheet) || !isWithin(n, 1, MOST_ITEMS)) return BAD;
        Sheet s = sheets[sheet];
        if (s == null) return NOTHING;
        if (s.sort != BYTES) return OTHER_SORT;
        shine();
        int least = 0;
        int greatest = 0;
        for (int k = 0; k < n; k++) {
            if (!s.hasItem(i + k)) return OUTSIDE;
            if (!isSmall(s.items[i + k])) return STATE;
            int seen = light.seenOf(s.items[i + k]);
            if (k == 0 || seen < least) least = seen;
            if (k == 0 || seen > greatest) greatest = seen;
        }
        return greatest - least;
    }

    public int shelf(int shelf, int what, int n) {
        if (!isShelf(shelf)) return BAD;
        switch (what) {
            case 0: return now.hasLens(n) ? putOnShelf(shelf, n, null) : BAD;
            case 1: return isSheet(n) ? putOnShelf(shelf, MISSING, sheets[n]) : BAD;
            case 2: return putOnShelf(shelf, MISSING, null);
            default: return BAD;
        }
    }

    public int taken(int shelf, int as) {
        boolean asKind = isWithin(as, PLAIN, TILTED);
        if (!isShelf(shelf) || !asKind && !isSort(as - ROW_AS)) return BAD;
        int l = shelfLens[shelf];
        Sheet s = shelfSheet[shelf];
        if (now.hasLens(l)) return asKind && isUnder(now.kind[l], as) ? l : OTHER_SORT;
        if (s == null) return NOTHING;
        return s.sort == as - ROW_AS ? s.items.length : OTHER_SORT;
    }

    public int act(int shelf, int act, int x) {
        deed.traced = 0;
        if (!isShelf(shelf) || !isWithin(act, 0, 3) || !now.hasLens(shelfLens[shelf])) return 0;
        int l = shelfLens[shelf];
        deed.hold(now.kind[l], l, now.bend[l]);
        int answer;
        switch (act) {
            case 0: answer = deed.dims(x); break;
            case 1: answer = deed.widens(x); break;
            case 2: answer = deed.parts(x); break;
            default: answer = deed.tells(x);
        }
        return deed.parted ? PARTED_BY_ZERO : answer;
    }

    public int trace(int i) {
        return isWithin(i, 0, deed.traced - 1) ? deed.trace[i] : NONE;
    }

    public int many(int what) {
        switch (what) {
            case 0: return now.lenses;
            case 1: return now.rules.count;
            case 2: return now.places;
            case 3: return now.reports;
            case 4: return rowCount;
            case 5: return text.length;
            case 6: return deed.traced;
            default: return BAD;
        }
    }

    // ---- kept

    public int keep() {
        kept.become(now);
        isKept = true;
        return 1;
    }

    public int again() {
        if (!isKept) return NONE;
        now.become(kept);
        return now.lenses;
    }

    // ---- behind the face

    private static boolean isWithin(int v, int least, int greatest) {
        return v >= least && v <= greatest;
    }

    private static boolean isSmall(int v) {
        return isWithin(v, -SMALL, SMALL);
    }

    private static boolean isMadeKind(int kind) {
        return isWithin(kind, SCRATCHED, TILTED);
    }

    private static boolean isTurn(int turn) {
        return isWithin(turn, 0, TURNS - 1);
    }

    private static boolean isPut(int n) {
        return isWithin(n, 1, MOST_PUT);
    }

    private static boolean isSheet(int sheet) {
        return isWithin(sheet, 0, SHEETS - 1);
    }

    private static boolean isShelf(int shelf) {
        return isWithin(shelf, 0, SHELVES - 1);
    }

    private static boolean isSort(int sort) {
        return isWithin(sort, BYTES, BOOLEANS);
    }

    /** Whether a KIND is another one or under it. */
    private static boolean isUnder(int kind, int as) {
        int k = kind;
        for (int up = 0; up < ABOVE.length && isWithin(k, PLAIN, TILTED); up++) {
            if (k == as) return true;
            k = ABOVE[k];
        }
        return false;
    }

    /** 1 if it was another one, else 0. */
    private static int store(int[] row, int i, int v) {
        if (row[i] == v) return 0;
        row[i] = v;
        return 1;
    }

    /** RAYS go through THE TUBE as it is now. */
    private void shine() {
        light.load(now);
        light.through(now);
    }

    private boolean isMendedWith(int what, int v) {
        trial.setting[what] = v;
        light.load(trial);
        light.through(trial);
        return light.isMended();
    }

    /** Of each REPORT: the BENDS with which it is so, bit b + 9 for BEND b. */
    private void findBends() {
        light.load(now);
        for (int r = 0; r < now.reports; r++) {
            int p = now.reportPlace[r];
            int set = 0;
            for (int b = -SMALL; b <= SMALL && p < now.places; b++) {
                light.throughWith(now, p, b);
                if (light.isMended() == (now.reportWas[r] == 1)) set |= 1 << b + SMALL;
            }
            bendsOfReport[r] = set;
        }
    }

    /** The BENDS that all REPORTS but one have in common. */
    private int bendsThatFit(int leftOut) {
        int set = (1 << 2 * SMALL + 1) - 1;
        for (int r = 0; r < now.reports; r++) {
            if (r != leftOut) set &= bendsOfReport[r];
        }
        return set;
    }

    private static int leastBend(int set) {
        int b = -SMALL;
        while (b < SMALL && (set >> b + SMALL & 1) == 0) b++;
        return b;
    }

    private static int greatestBend(int set) {
        int b = SMALL;
        while (b > -SMALL && (set >> b + SMALL & 1) == 0) b--;
        return b;
    }

    private boolean isInRows(int k, int what) {
        return isWithin(k, 0, rowCount - 1) && isWithin(what, 0, ROW_WIDTH - 1);
    }

    /** What ROW k of a RAY through THE TUBE came through. */
    private int dueThrough(int k) {
        if (k == 0) return FIRST_ROW;
        return k <= now.places ? now.lens[k - 1] : EYE_ROW;
    }

    private boolean isRightRow(int k, int height) {
        int eyeRow = now.places + 1;
        if (k > eyeRow || k == rowCount - 1 && k != eyeRow) return false;
        return rows[ROW_WIDTH * k] == dueThrough(k)
            && rows[ROW_WIDTH * k + 1] == light.heightAt(k, height)
            && rows[ROW_WIDTH * k + 2] == light.slopeAt(k, height);
    }

    private int putOnShelf(int shelf, int l, Sheet s) {
        shelfLens[shelf] = l;
        shelfSheet[shelf] = s;
        return 1;
    }

    /** All that keep() keeps. */
    private static final class Bench {
        private int lenses;
        private final int[] kind = new int[LENSES];
        private final int[] bend = new int[LENSES];
        private final int[] tilt = new int[LENSES];
        private final int[] price = new int[LENSES];
        private final int[] setting = {0, 1, 0, 0};
        private Rules rules = new Rules(0, new int[0]);
        private int places;
        private final int[] lens = new int[PLACES];
        private final int[] turn = new int[PLACES];
        private int reports;
        private final int[] reportPlace = new int[REPORTS];
        private final int[] reportWas = new int[REPORTS];
        private int z = 1;

        private boolean hasLens(int l) {
            return isWithin(l, 0, lenses - 1);
        }

        private boolean hasPlace(int p) {
            return isWithin(p, 0, places - 1);
        }

        private int placeOf(int l) {
            for (int p = 0; p < places; p++) {
                if (lens[p] == l) return p;
            }
            return NOWHERE;
        }

        private void swap(int p, int q) {
            int l = lens[p];
            lens[p] = lens[q];
            lens[q] = l;
            int t = turn[p];
            turn[p] = turn[q];
            turn[q] = t;
        }

        private int drawn() {
            if (places < 1) return NONE;
            z = z * 1103515245 + 12345;
            int p = (z >>> 16) % places;
            turn[p] = (turn[p] + 1) % TURNS;
            return p;
        }

        private void become(Bench other) {
            lenses = other.lenses;
            System.arraycopy(other.kind, 0, kind, 0, LENSES);
            System.arraycopy(other.bend, 0, bend, 0, LENSES);
            System.arraycopy(other.tilt, 0, tilt, 0, LENSES);
            System.arraycopy(other.price, 0, price, 0, LENSES);
            System.arraycopy(other.setting, 0, setting, 0, SETTINGS);
            rules = other.rules;
            places = other.places;
            System.arraycopy(other.lens, 0, lens, 0, PLACES);
            System.arraycopy(other.turn, 0, turn, 0, PLACES);
            reports = other.reports;
            System.arraycopy(other.reportPlace, 0, reportPlace, 0, REPORTS);
            System.arraycopy(other.reportWas, 0, reportWas, 0, REPORTS);
            z = other.z;
        }
    }

    /** THE RULES as told; never changed, so that two benches may share them. */
    private static final class Rules {
        /** FACTS stand in the order of their NAMES in a text; the first three in that of the settings, too. */
        private static final int BEND = 3, NUMBER = 4, FACTS = 5;
        /** A VALUE from here on is a FACT, below it a NUMBER. */
        private static final int FACT_VALUE = 10000;
        private static final int MORE = 0, LESS = 1, FLAT = 2;
        private static final int BELOW = 0, SAME = 1, BEYOND = 2;
        private static final int NOT = -1, AND = -2, OR = -3;
        private static final int HEAD = 4;

        private final int count;
        /** Of each rule: KIND, what it does, N, the length of its condition, and that (what joins stands behind). */
        private final int[] code;

        private Rules(int count, int[] code) {
            this.count = count;
            this.code = code;
        }

        private static int comparison(int left, int sign, int right) {
            return left << 16 | right << 2 | sign;
        }

        /** b of a LENS of a KIND. */
        private int bent(int kind, int[] facts) {
            int b = facts[BEND];
            int at = 0;
            for (int r = 0; r < count; r++) {
                int end = at + HEAD + code[at + 3];
                if (isUnder(kind, code[at]) && holds(at + HEAD, end, facts)) {
                    return changed(b, code[at + 1], code[at + 2]);
                }
                at = end;
            }
            return b;
        }

        private static int changed(int b, int does, int n) {
            switch (does) {
                case MORE: return b + n;
                case LESS: return b - n;
                default: return 0;
            }
        }

        /** Bits of an int are the stack: what a text of 3 "(" leaves open needs 9 at most. */
        private boolean holds(int from, int end, int[] facts) {
            int stack = 1;
            for (int i = from; i < end; i++) {
                int top = stack & 1;
                switch (code[i]) {
                    case NOT: stack ^= 1; break;
                    case AND: stack = top == 1 ? stack >>> 1 : stack >>> 1 & ~1; break;
                    case OR: stack = stack >>> 1 | top; break;
                    default: stack = stack << 1 | (compares(code[i], facts) ? 1 : 0);
                }
            }
            return (stack & 1) == 1;
        }

        private static boolean compares(int comparison, int[] facts) {
            int left = valueOf(comparison >> 16, facts);
            int right = valueOf(comparison >> 2 & 0x3fff, facts);
            switch (comparison & 3) {
                case BELOW: return left < right;
                case SAME: return left == right;
                default: return left > right;
            }
        }

        private static int valueOf(int value, int[] facts) {
            int fact = value - FACT_VALUE;
            return fact >= 0 && fact < FACTS ? facts[fact] : value;
        }
    }

    /** THE TAPE, and how THE RULES are read from it. */
    private static final class Text {
        /** The KINDS first, by their numbers; the FACTS last. */
        private static final String NAMES =
            "lens scratched warm dusty twin tilted if more less flat or and not heat gap eye bend number ";
        private static final int IF = 6, MORE = 7, LESS = 8, FLAT = 9, OR = 10, AND = 11, NOT = 12;
        private static final int FIRST_FACT = 13, LAST_FACT = 17;
        /** Other words: their signs' bytes, and from NUMBER on what a NUMBER tells. */
        private static final int NO_WORD = 18, END = 19, NUMBER = 1000;
        private static final int NO_FAULT = -1, DIGITS = 4, GREATEST_NUMBER = 9999, MOST_CHANGED = 99, MOST_OPEN = 3;

        private final int[] bytes = new int[TAPE];
        private int length;
        private final int[] words = new int[TAPE + 1];
        private final int[] starts = new int[TAPE + 1];
        private int looked;
        private int word;
        private int fault;
        private final int[] code = new int[TAPE + RULES * Rules.HEAD];
        private int size;

        private void append(int b) {
            if (length >= TAPE) return;
            bytes[length] = b;
            length++;
        }

        /** What the text tells, or null if it has a FAULT. */
        private Rules told() {
            split();
            looked = 0;
            word = words[0];
            fault = NO_FAULT;
            size = 0;
            int count = 0;
            while (count < RULES && word != END && fault == NO_FAULT) {
                readRule();
                count++;
            }
            if (word != END) fail();
            return fault == NO_FAULT ? new Rules(count, Arrays.copyOf(code, size)) : null;
        }

        private void split() {
            int count = 0;
            for (int i = 0; i < length; i++) {
                if (bytes[i] == ' ' || isInWord(i)) continue;
                words[count] = wordAt(i, endOfWord(i));
                starts[count] = i;
                count++;
            }
            words[count] = END;
            starts[count] = length;
        }

        /** Whether a NAME or NUMBER that began ahead of a byte goes on with it. */
        private boolean isInWord(int i) {
            if (i < 1) return false;
            return isLetter(bytes[i - 1]) && isLetter(bytes[i]) || isDigit(bytes[i - 1]) && isDigit(bytes[i]);
        }

        private int endOfWord(int from) {
            int end = from + 1;
            if (isLetter(bytes[from])) {
                while (end < length && isLetter(bytes[end])) end++;
            } else if (isDigit(bytes[from])) {
                while (end < length && isDigit(bytes[end])) end++;
            }
            return end;
        }

        private int wordAt(int from, int end) {
            if (isLetter(bytes[from])) return nameAt(from, end - from);
            if (isDigit(bytes[from])) return numberAt(from, end - from);
            return isSign(bytes[from]) ? bytes[from] : NO_WORD;
        }

        private static boolean isLetter(int b) {
            return b >= 'a' && b <= 'z';
        }

        private static boolean isDigit(int b) {
            return b >= '0' && b <= '9';
        }

        private static boolean isSign(int b) {
            return b == ';' || b == '(' || b == ')' || b == '<' || b == '=' || b == '>';
        }

        private int numberAt(int from, int digits) {
            if (digits > DIGITS) return NO_WORD;
            int n = 0;
            for (int i = 0; i < digits; i++) n = 10 * n + bytes[from + i] - '0';
            return NUMBER + n;
        }

        private int nameAt(int from, int letters) {
            int name = 0;
            int letter = 0;
            boolean same = true;
            for (int i = 0; i < NAMES.length(); i++) {
                char c = NAMES.charAt(i);
                if (c != ' ') {
                    same = same && letter < letters && bytes[from + letter] == c;
                    letter++;
                } else if (same && letter == letters) {
                    return name;
                } else {
                    name++;
                    letter = 0;
                    same = true;
                }
            }
            return NO_WORD;
        }

        private void step() {
            if (word == END) return;
            looked++;
            word = words[looked];
        }

        private void fail() {
            if (fault == NO_FAULT) fault = starts[looked];
        }

        private void expect(int due) {
            if (word != due) fail();
            step();
        }

        private void emit(int v) {
            if (size >= code.length) return;
            code[size] = v;
            size++;
        }

        private void readRule() {
            int head = size;
            for (int i = 0; i < Rules.HEAD; i++) emit(0);
            if (!isWithin(word, PLAIN, TILTED)) fail();
            code[head] = word;
            step();
            if (word == IF) {
                step();
                readCondition(0);
            }
            code[head + 3] = size - head - Rules.HEAD;
            readDoing(head);
            expect(';');
        }

        private void readDoing(int head) {
            switch (word) {
                case MORE: code[head + 1] = Rules.MORE; break;
                case LESS: code[head + 1] = Rules.LESS; break;
                case FLAT: code[head + 1] = Rules.FLAT; break;
                default: fail();
            }
            boolean tellsHowMuch = word != FLAT;
            step();
            if (!tellsHowMuch) return;
            if (!isWithin(word, NUMBER, NUMBER + MOST_CHANGED)) fail();
            code[head + 2] = word - NUMBER;
            step();
        }

        private void readCondition(int open) {
            readAll(open);
            for (int i = 0; i < TAPE && word == OR && fault == NO_FAULT; i++) {
                step();
                readAll(open);
                emit(Rules.OR);
            }
        }

        private void readAll(int open) {
            readOne(open);
            for (int i = 0; i < TAPE && word == AND && fault == NO_FAULT; i++) {
                step();
                readOne(open);
                emit(Rules.AND);
            }
        }

        private void readOne(int open) {
            boolean not = false;
            for (int i = 0; i < TAPE && word == NOT; i++) {
                not = !not;
                step();
            }
            if (word != '(') {
                int left = readValue();
                int sign = readSign();
                emit(Rules.comparison(left, sign, readValue()));
            } else if (open < MOST_OPEN) {
                step();
                readCondition(open + 1);
                expect(')');
            } else {
                fail();
            }
            if (not) emit(Rules.NOT);
        }

        private int readSign() {
            int sign = Rules.BELOW;
            if (word == '=') sign = Rules.SAME;
            else if (word == '>') sign = Rules.BEYOND;
            else if (word != '<') fail();
            step();
            return sign;
        }

        private int readValue() {
            int value = 0;
            if (isWithin(word, NUMBER, NUMBER + GREATEST_NUMBER)) value = word - NUMBER;
            else if (isWithin(word, FIRST_FACT, LAST_FACT)) value = Rules.FACT_VALUE + word - FIRST_FACT;
            else fail();
            step();
            return value;
        }
    }

    /**
     * RAYS on their way through a row of LENSES. All is linear in the HEIGHT that a RAY comes at: anywhere,
     * it is the RAY that came at 0, and its own HEIGHT times what the RAY that came at 1 is more than that.
     */
    private static final class Light {
        private final int[] facts = new int[Rules.FACTS];
        private final int[] strength = new int[LENSES];
        private final int[] tilt = new int[LENSES];
        private int gap;
        private int eye;
        private int limit;
        /** Of the RAY that came at 0, and of what one that came at 1 is more: ahead of each PLACE, and at the end. */
        private final int[] height = new int[ROWS];
        private final int[] slope = new int[ROWS];
        private final int[] moreHeight = new int[ROWS];
        private final int[] moreSlope = new int[ROWS];
        private int end;

        private Light() {
            moreHeight[0] = 1;
        }

        /** How each LENS bends as a bench is set. */
        private void load(Bench b) {
            gap = b.setting[GAP];
            eye = b.setting[EYE];
            limit = b.setting[LIMIT];
            System.arraycopy(b.setting, 0, facts, 0, EYE + 1);
            System.arraycopy(b.tilt, 0, tilt, 0, LENSES);
            for (int l = 0; l < b.lenses; l++) {
                facts[Rules.BEND] = b.bend[l];
                facts[Rules.NUMBER] = l;
                strength[l] = strengthOf(b.kind[l], b.rules.bent(b.kind[l], facts), b.setting[HEAT]);
            }
        }

        private static int strengthOf(int kind, int b, int heat) {
            int uncut;
            switch (kind) {
                case SCRATCHED: uncut = b / 2; break;
                case WARM: uncut = b + heat; break;
                case DUSTY: uncut = b + heat - 1; break;
                case TWIN: uncut = 2 * b; break;
                default: uncut = -2 * b;
            }
            return Math.max(-SMALL, Math.min(SMALL, uncut));
        }

        private void through(Bench b) {
            throughWith(b, NOWHERE, 0);
        }

        /** A stranger's LENS stands at one PLACE. */
        private void throughWith(Bench b, int strange, int bend) {
            for (int p = 0; p < b.places; p++) {
                if (p == strange) pass(p, bend, 0);
                else put(p, b.lens[p], b.turn[p]);
            }
            see(b.places);
        }

        private void put(int p, int l, int turn) {
            int push = 0;
            if (turn == 0) push = tilt[l];
            else if (turn == 2) push = -tilt[l];
            pass(p, strength[l], push);
        }

        private void pass(int p, int bends, int push) {
            slope[p + 1] = slope[p] + push - bends * height[p];
            height[p + 1] = height[p] + gap * slope[p + 1];
            moreSlope[p + 1] = moreSlope[p] - bends * moreHeight[p];
            moreHeight[p + 1] = moreHeight[p] + gap * moreSlope[p + 1];
        }

        /** Behind so many PLACES the EYE is next. */
        private void see(int places) {
            pass(places, eye, 0);
            end = places + 1;
        }

        private int heightAt(int k, int came) {
            return height[k] + came * moreHeight[k];
        }

        private int slopeAt(int k, int came) {
            return slope[k] + came * moreSlope[k];
        }

        private int seenOf(int came) {
            return heightAt(end, came);
        }

        private int shiftSeen() {
            return Math.abs(height[end]);
        }

        private int blurSeen() {
            return Math.abs(moreHeight[end]);
        }

        private int wrongSeen() {
            return shiftSeen() + blurSeen();
        }

        private boolean isMended() {
            return wrongSeen() <= limit;
        }
    }

    /** What TUBES can be made of the LENSES there are. TURN 3 is as TURN 1, so it is only counted. */
    private static final class Heap {
        private static final int UNKNOWN = -1;

        private final Light light;
        private int lenses;
        private int n;
        private int used;
        private final int[] lens = new int[MOST_PUT];
        private final int[] turn = new int[MOST_PUT];
        private final int[] firstLens = new int[MOST_PUT];
        private final int[] firstTurn = new int[MOST_PUT];
        private int leastWrong;
        private int mendedTubes;
        /** Of each LENS: those that it is MENDED with, by bits. */
        private final int[] partners = new int[LENSES];
        private final int[] partner = new int[LENSES];
        private final int[] matched = new int[LENSES];
        private int mostPairs;

        private Heap(Light light) {
            this.light = light;
        }

        private void lookAtTubes(Bench b, int size) {
            light.load(b);
            lenses = b.lenses;
            n = size;
            used = 0;
            leastWrong = UNKNOWN;
            mendedTubes = 0;
            Arrays.fill(partners, 0);
            walk(0, 1);
        }

        /** In the order in which the FIRST of several is found first. */
        private void walk(int p, int ways) {
            if (p >= n) {
                weigh(ways);
                return;
            }
            for (int l = 0; l < lenses; l++) {
                if ((used >> l & 1) == 1) continue;
                used |= 1 << l;
                lens[p] = l;
                for (int t = 0; t < TURNS - 1; t++) {
                    turn[p] = t;
                    light.put(p, l, t);
                    walk(p + 1, t == 1 ? 2 * ways : ways);
                }
                used &= ~(1 << l);
            }
        }

        private void weigh(int ways) {
            light.see(n);
            int wrong = light.wrongSeen();
            if (light.isMended()) {
                mendedTubes += ways;
                if (n == 2) join(lens[0], lens[1]);
            }
            if (leastWrong == UNKNOWN || wrong < leastWrong) {
                leastWrong = wrong;
                System.arraycopy(lens, 0, firstLens, 0, MOST_PUT);
                System.arraycopy(turn, 0, firstTurn, 0, MOST_PUT);
            }
        }

        private void join(int l, int m) {
            partners[l] |= 1 << m;
            partners[m] |= 1 << l;
        }

        private void match(Bench b) {
            lookAtTubes(b, 2);
            mostPairs = UNKNOWN;
            Arrays.fill(partner, NONE);
            pairFrom(0, 0);
        }

        /** The least partners are tried first, none last: of as many PAIRS the one found first is the MATCH. */
        private void pairFrom(int l, int pairs) {
            if (l >= lenses) {
                if (pairs <= mostPairs) return;
                mostPairs = pairs;
                System.arraycopy(partner, 0, matched, 0, LENSES);
                return;
            }
            if (pairs + (lenses - l) / 2 <= mostPairs) return;
            if (partner[l] == NONE) {
                for (int m = l + 1; m < lenses; m++) {
                    if (partner[m] != NONE || (partners[l] >> m & 1) == 0) continue;
                    partner[l] = m;
                    partner[m] = l;
                    pairFrom(l + 1, pairs + 1);
                    partner[l] = NONE;
                    partner[m] = NONE;
                }
            }
            pairFrom(l + 1, pairs);
        }
    }

    /** A GAME. TURN 3 is as TURN 1, so it is never tried. */
    private static final class Contest {
        private final Light light;
        private int lenses;
        private int used;
        private int places;
        private int moves;

        private Contest(Light light) {
            this.light = light;
        }

        private void open(Bench b, int n) {
            light.load(b);
            light.through(b);
            lenses = b.lenses;
            places = b.places;
            used = 0;
            for (int p = 0; p < places; p++) used |= 1 << b.lens[p];
            moves = Math.min(n, Math.min(PLACES - places, lenses - places));
        }

        private boolean firstWins(int put) {
            if (put >= moves) {
                light.see(places + put);
                return light.isMended();
            }
            boolean firstPuts = put % 2 == 0;
            for (int l = 0; l < lenses; l++) {
                for (int t = 0; t < TURNS - 1 && (used >> l & 1) == 0; t++) {
                    if (firstWinsBehind(put, l, t) == firstPuts) return firstPuts;
                }
            }
            return !firstPuts;
        }

        private boolean firstWinsBehind(int put, int l, int t) {
            light.put(places + put, l, t);
            used |= 1 << l;
            boolean wins = firstWins(put + 1);
            used &= ~(1 << l);
            return wins;
        }

        private int firstMove() {
            if (moves < 1) return NONE;
            boolean wins = firstWins(0);
            for (int l = 0; l < lenses; l++) {
                for (int t = 0; t < TURNS - 1 && (used >> l & 1) == 0; t++) {
                    if (firstWinsBehind(0, l, t) == wins) return 10 * l + t;
                }
            }
            return NONE;
        }
    }

    /** AGING: how long THE TUBE can be MENDED, from each YEAR and all its TURNS on. */
    private static final class Ageing {
        private static final int YEARS = 21;
        /** TURNS of all PLACES are told by one number, two bits a PLACE. */
        private static final int ALL_TURNS = 256;

        private final Light light;
        private final Bench trial = new Bench();
        private final int[] lasts = new int[(YEARS + 1) * ALL_TURNS];

        private Ageing(Light light) {
            this.light = light;
        }

        private int lasting(Bench b) {
            trial.become(b);
            for (int year = YEARS - 1; year >= 0; year--) {
                trial.setting[EYE] = Math.min(GREATEST_SETTING[EYE], b.setting[EYE] + year);
                light.load(trial);
                fill(year, 0, 0);
            }
            return lasts[turnsNow()];
        }

        private int turnsNow() {
            int turns = 0;
            for (int p = 0; p < trial.places; p++) turns |= trial.turn[p] << 2 * p;
            return turns;
        }

        /** With the TURNS ahead of PLACE p as they are, and all TURNS from it on. */
        private void fill(int year, int p, int turns) {
            if (p >= trial.places) {
                light.see(p);
                lasts[year * ALL_TURNS + turns] = light.isMended() ? 1 + longest(year + 1, turns) : 0;
                return;
            }
            for (int t = 0; t < TURNS; t++) {
                light.put(p, trial.lens[p], t);
                fill(year, p + 1, turns | t << 2 * p);
            }
        }

        private int longest(int year, int turns) {
            int longest = lasts[year * ALL_TURNS + turns];
            for (int p = 0; p < trial.places; p++) {
                longest = Math.max(longest, lasts[year * ALL_TURNS + quarterMore(turns, p)]);
            }
            return longest;
        }

        private static int quarterMore(int turns, int p) {
            int t = (turns >> 2 * p) + 1 & 3;
            return turns & ~(3 << 2 * p) | t << 2 * p;
        }

        /** Ahead of a YEAR till which it LASTS. */
        private int placeTurned(int year) {
            int turns = turnsNow();
            int place = PLACES;
            for (int y = 1; y <= year; y++) {
                int left = longest(y, turns);
                place = PLACES;
                for (int p = trial.places - 1; p >= 0; p--) {
                    if (lasts[y * ALL_TURNS + quarterMore(turns, p)] == left) place = p;
                }
                if (place < PLACES) turns = quarterMore(turns, place);
            }
            return place;
        }
    }

    /** One ACT of a LENS, and THE TRACE of it. */
    private static final class Deed {
        private int kind;
        private int n;
        private int a;
        private boolean parted;
        private final int[] trace = new int[TRACED];
        private int traced;

        private void hold(int ofKind, int number, int bend) {
            kind = ofKind;
            n = number;
            a = bend;
            parted = false;
        }

        /** Nothing begins any more behind a parting by 0. */
        private void begin(int body) {
            if (parted || traced >= TRACED) return;
            trace[traced] = body;
            traced++;
        }

        private int dims(int x) {
            switch (kind) {
                case SCRATCHED: begin(20); return lensDims(x) ^ n;
                case DUSTY: begin(50); return lensDims(x) + 1;
                default: return lensDims(x);
            }
        }

        private int lensDims(int x) {
            begin(10);
            return x + a;
        }

        private int widens(int x) {
            switch (kind) {
                case WARM:
                case DUSTY: begin(30); return lensWidens(x) - a;
                case TILTED: begin(60); return -lensWidens(x);
                default: return lensWidens(x);
            }
        }

        private int lensWidens(int x) {
            begin(11);
            return dims(x) * 2;
        }

        private int parts(int x) {
            switch (kind) {
                case TWIN: return twinParts(x);
                case TILTED: begin(61); return twinParts(x) - dims(n);
                default: return lensParts(x);
            }
        }

        private int twinParts(int x) {
            begin(40);
            return lensParts(x * 2);
        }

        private int lensParts(int x) {
            begin(12);
            if (a == n) {
                parted = true;
                return 0;
            }
            return x / (a - n);
        }

        private int tells(int x) {
            if (kind != DUSTY) return lensTells(x);
            begin(51);
            return lensTells(x) + parts(n);
        }

        private int lensTells(int x) {
            begin(13);
            return widens(x) ^ n;
        }
    }

    /** A row of items of one sort; a shelf goes on holding it when its SHEET becomes another one. */
    private static final class Sheet {
        private final int sort;
        /** As they are when taken as ints: of longs no more is asked than their lowest 32 bits. */
        private final int[] items;

        private Sheet(int sort, int n) {
            this.sort = sort;
            items = new int[n];
        }

        private boolean hasItem(int i) {
            return isWithin(i, 0, items.length - 1);
        }

        private int narrowed(int v) {
            switch (sort) {
                case BYTES: return (byte) v;
                case SHORTS: return (short) v;
                case BOOLEANS: return v != 0 ? 1 : 0;
                default: return v;
            }
        }
    }
}
