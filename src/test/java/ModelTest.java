import java.util.ArrayList;
import java.util.Arrays;
import java.util.List;
import java.util.Random;

/** Long runs of calls, each answer compared with that of a slow reading of the document. */
public final class ModelTest {
    private static final int RUNS = 150;
    private static final int CALLS = 511;
    private static final int MOST_TOLD = 20;
    private static final int STARTS = 8;
    private static final int[] EDGES = {
        Integer.MIN_VALUE, -10, -9, -8, -1, 0, 1, 2, 3, 4, 7, 8, 9, 10, 15, 16, 96, 97,
        255, 256, 1022, 1023, 1024, Integer.MAX_VALUE};
    private static final int[] FEWER_EDGES = {Integer.MIN_VALUE, -1, 0, 1, 2, 3, 4, 8, 9, 10, 16, 255, 256,
        Integer.MAX_VALUE};

    private static int wrong = 0;

    public static void main(String[] args) {
        for (int run = 0; run < RUNS; run++) {
            oneRun(run);
        }
        for (int start = 0; start < STARTS; start++) {
            edgesFrom(start);
        }
        System.out.println(wrong == 0 ? "all answers are as due" : wrong + " answers are not as due");
        if (wrong != 0) {
            System.exit(1);
        }
    }

    private static void oneRun(int run) {
        Random chance = new Random(run);
        SilentAsking x = new SilentAsking();
        Model model = new Model();
        if (run % 4 != 0) {
            x.records(run % 4);
            model.records(run % 4);
        }
        for (int n = 0; n < CALLS; n++) {
            String[] names = run % 2 == 0 ? Model.CALLS : Model.FETCHING;
            String name = names[chance.nextInt(names.length)];
            int[] with = drawArguments(name, model, chance);
            compare("run " + run + ", call " + n, x, model, name, with);
        }
    }

    private static void compare(String which, SilentAsking x, Model model, String name, int... with) {
        long got = Model.call(x, name, with);
        long want = model.call(name, with);
        if (got != want && wrong++ < MOST_TOLD) {
            System.out.println(which + ": " + name + Arrays.toString(with) + " answered " + got
                + ", due is " + want);
        }
    }

    // ---- every call with every row of edges

    private static void edgesFrom(int start) {
        for (String name : Arrays.stream(Model.CALLS).distinct().toList()) {
            int many = argumentsOf(name);
            int[] edges = many == 4 ? FEWER_EDGES : EDGES;
            int rows = (int) Math.pow(edges.length, many);
            SilentAsking x = new SilentAsking();
            Model model = new Model();
            for (int row = 0; row < rows; row++) {
                if (row % 400 == 0) {
                    x = new SilentAsking();
                    model = new Model();
                    begin(start, x, model);
                }
                compare("start " + start, x, model, name, rowOf(edges, many, row));
            }
        }
    }

    private static int[] rowOf(int[] edges, int many, int row) {
        int[] with = new int[many];
        int rest = row;
        for (int q = 0; q < many; q++) {
            with[q] = edges[rest % edges.length];
            rest /= edges.length;
        }
        return with;
    }

    private static int argumentsOf(String name) {
        switch (name) {
            case "least": return 0;
            case "records": case "record": case "veil": case "answer": case "fetch": case "caught":
            case "mends": case "might": case "learns": case "total": return 1;
            case "put": case "copy": case "point": case "ways": case "fits": case "both": return 2;
            case "pair": return 4;
            default: return 3;
        }
    }

    /** From a new object, through rising m, T and numbers of lazy stores, with a question but at 0 and 4. */
    private static void begin(int start, SilentAsking x, Model model) {
        if (start == 0) {
            return;
        }
        int m = 1 + start % 3;
        compare("begin", x, model, "records", m);
        for (int i = 0; i < 1 << m; i++) {
            compare("begin", x, model, "put", i, 96 - i * start);
        }
        compare("begin", x, model, "store", 2, 1, 96);
        compare("begin", x, model, "store", 9, 2, 0);
        compare("begin", x, model, "put", 1, start);
        for (int j = 4; j < start; j++) {
            compare("begin", x, model, "store", j, 3, 0);
        }
        if (start != 4) {
            compare("begin", x, model, "ask", start % 2, 1 + start % 2, Integer.MAX_VALUE - start);
            compare("begin", x, model, "veil", start);
            compare("begin", x, model, "fetch", 9);
        }
    }

    // ---- random runs

    /** Mostly what the call takes, now and then what it refuses. */
    private static int[] drawArguments(String name, Model model, Random chance) {
        int i = within(-1, model.n, chance, 0, model.n - 1);
        int j = within(0, 10, chance, 1, 9);
        int kind = within(-1, 4, chance, 0, 3);
        int seed = chance.nextInt(12) == 0 ? chance.nextInt() : chance.nextInt() >>> 1;
        int number = within(-1, 97, chance, 0, 96);
        int lots = within(0, 3, chance, 1, 2);
        int set = within(-4, 1 << model.n, chance, 0, (1 << model.n) - 1);
        int who = storeSet(chance);
        int row = chance.nextInt(3) == 0 ? within(0, 10, chance, 1, 9) : 9;
        switch (name) {
            case "records": return new int[] {within(0, 4, chance, 1, 3)};
            case "put": return new int[] {i, number};
            case "record": return new int[] {i};
            case "store": return new int[] {j, chance.nextInt(3) == 0 ? kind : 0, within(0, 97, chance, 1, 96)};
            case "taken": return new int[] {j, kind, within(-1, 3, chance, 0, 2)};
            case "copy": return new int[] {j, i};
            case "sum": return new int[] {number, within(-1, 97, chance, 0, 96), within(-1, 97, chance, 0, 96)};
            case "ask": return new int[] {i, lots, seed};
            case "veil": return new int[] {chance.nextInt(4) == 0 ? -9 : seed};
            case "point": return new int[] {j, within(-1, 3, chance, 0, model.m - 1)};
            case "answer": case "caught": return new int[] {j};
            case "needed": return new int[] {within(0, 4, chance, 1, 3), lots, within(-1, 5, chance, 0, 4)};
            case "fetch": case "mends": return new int[] {row};
            case "ways": return new int[] {who, i};
            case "might": case "learns": return new int[] {who};
            case "fits": return new int[] {row, chance.nextBoolean() ? model.wantedNumber() : number};
            case "both": return new int[] {j, set};
            case "pair": return new int[] {j, within(0, 10, chance, 1, 9), set, i};
            case "total": return new int[] {within(-1, 7, chance, 0, 6)};
            default: return new int[0];
        }
    }

    private static int storeSet(Random chance) {
        if (chance.nextInt(12) == 0) {
            return chance.nextInt(2100) - 50;
        }
        int set = 0;
        for (int size = 1 + chance.nextInt(4); size > 0; size--) {
            set |= 1 << 1 + chance.nextInt(9);
        }
        return set;
    }

    private static int within(int low, int high, Random chance, int from, int to) {
        switch (chance.nextInt(25)) {
            case 0: return low;
            case 1: return high;
            case 2: return chance.nextInt(40) == 0 ? chance.nextInt() : from;
            default: return from + chance.nextInt(to - from + 1);
        }
    }

    /** The document read slowly: what can be tried is tried. */
    private static final class Model {
        private static final int UNKNOWN = -1, BAD = -2, STATE = -3, NONE = -9, CAST = -13, P = 97;
        private static final String[] CALLS = {
            "records", "put", "record", "store", "taken", "copy", "sum", "ask", "veil", "point", "answer",
            "needed", "fetch", "caught", "mends", "ways", "might", "learns", "least", "fits", "both", "pair",
            "total", "put", "ask", "ask", "fetch", "store", "caught"};
        /** Few new records, so that stores of many kinds are there when a fetch() comes. */
        private static final String[] FETCHING = {
            "put", "store", "store", "ask", "veil", "answer", "fetch", "fetch", "fetch", "caught", "caught",
            "mends", "fits", "fits", "total", "put", "store", "fetch", "caught", "copy", "taken", "both", "pair"};

        private int m = 1;
        private int n = 2;
        private int[] records = new int[2];
        private final int[] kinds = new int[10];
        private final int[] lies = new int[10];
        private final int[][] copies = new int[10][];
        private boolean asked = false;
        private int wanted = 0;
        private int t = 0;
        private int[][] points;
        private int[] veil = null;
        private List<Integer> caught = new ArrayList<>();
        private int up = 0;
        private int down = 0;
        private int questions = 0;

        private static long call(SilentAsking x, String name, int[] a) {
            switch (name) {
                case "records": return x.records(a[0]);
                case "put": return x.put(a[0], a[1]);
                case "record": return x.record(a[0]);
                case "store": return x.store(a[0], a[1], a[2]);
                case "taken": return x.taken(a[0], a[1], a[2]);
                case "copy": return x.copy(a[0], a[1]);
                case "sum": return x.sum(a[0], a[1], a[2]);
                case "ask": return x.ask(a[0], a[1], a[2]);
                case "veil": return x.veil(a[0]);
                case "point": return x.point(a[0], a[1]);
                case "answer": return x.answer(a[0]);
                case "needed": return x.needed(a[0], a[1], a[2]);
                case "fetch": return x.fetch(a[0]);
                case "caught": return x.caught(a[0]);
                case "mends": return x.mends(a[0]);
                case "ways": return x.ways(a[0], a[1]);
                case "might": return x.might(a[0]);
                case "learns": return x.learns(a[0]);
                case "least": return x.least();
                case "fits": return x.fits(a[0], a[1]);
                case "both": return x.both(a[0], a[1]);
                case "pair": return x.pair(a[0], a[1], a[2], a[3]);
                default: return x.total(a[0]);
            }
        }

        private long call(String name, int[] a) {
            switch (name) {
                case "records": return records(a[0]);
                case "put": return !isRecord(a[0]) ? UNKNOWN : !isNumber(a[1]) ? BAD : put(a[0], a[1]);
                case "record": return isRecord(a[0]) ? records[a[0]] : UNKNOWN;
                case "store": return store(a[0], a[1], a[2]);
                case "taken": return taken(a[0], a[1], a[2]);
                case "copy": return !isStore(a[0]) || !isRecord(a[1]) ? UNKNOWN
                    : kinds[a[0]] == 3 ? NONE : copyOf(a[0])[a[1]];
                case "sum": return sum(a);
                case "ask": return ask(a[0], a[1], a[2]);
                case "veil": return veil(a[0]);
                case "point": return !isStore(a[0]) ? UNKNOWN : !asked ? STATE
                    : a[1] < 0 || a[1] >= m ? BAD : points[a[0]][a[1]];
                case "answer": return !isStore(a[0]) ? UNKNOWN : !asked ? STATE
                    : kinds[a[0]] == 3 ? NONE : answer(a[0]);
                case "needed": return a[0] < 1 || a[0] > 3 || a[1] < 1 || a[1] > 2 || a[2] < 0 || a[2] > 4
                    ? BAD : a[0] * a[1] + 1 + a[2] + a[2];
                case "fetch": return fetch(a[0]);
                case "caught": return !isStore(a[0]) ? UNKNOWN : caught.contains(a[0]) ? 1 : 0;
                case "mends": return row(a[0]) != 0 ? row(a[0]) : (telling(a[0]).size() - m * t - 1) / 2;
                case "ways": return set(a[0]) != 0 ? set(a[0]) : !isRecord(a[1]) ? UNKNOWN : allWays(a[0])[a[1]];
                case "might": return set(a[0]) != 0 ? set(a[0])
                    : Arrays.stream(allWays(a[0])).filter(ways -> ways > 0).count();
                case "learns": return set(a[0]) != 0 ? set(a[0]) : unlike(a[0]) ? 1 : 0;
                case "least": return least();
                case "fits": return !isStore(a[0]) || !isNumber(a[1]) ? BAD
                    : row(a[0]) != 0 ? row(a[0]) : fits(a[0], a[1]) ? 1 : 0;
                case "both": return !isStore(a[0]) ? UNKNOWN : a[1] < 0 || a[1] >= 1 << n ? BAD
                    : kinds[a[0]] == 3 ? NONE : mixed(a[0], a[1]);
                case "pair": return pair(a[0], a[1], a[2], a[3]);
                default: return total(a[0]);
            }
        }

        private boolean isRecord(int i) {
            return 0 <= i && i < n;
        }

        private static boolean isStore(int j) {
            return 1 <= j && j <= 9;
        }

        private static boolean isNumber(int v) {
            return 0 <= v && v <= 96;
        }

        private int wantedNumber() {
            return asked ? records[wanted] : 0;
        }

        private int records(int bits) {
            if (bits < 1 || bits > 3) {
                return BAD;
            }
            int before = n;
            m = bits;
            n = (int) Math.pow(2, bits);
            records = new int[n];
            Arrays.fill(kinds, 0);
            asked = false;
            return before;
        }

        private int put(int i, int v) {
            int before = records[i];
            records[i] = v;
            return before;
        }

        private int store(int j, int kind, int d) {
            if (!isStore(j)) {
                return UNKNOWN;
            }
            if (kind < 0 || kind > 3 || kind == 1 && (d < 1 || d > 96)) {
                return BAD;
            }
            int before = kinds[j];
            kinds[j] = kind;
            lies[j] = d;
            copies[j] = records.clone();
            return before;
        }

        private int[] copyOf(int j) {
            return kinds[j] == 2 ? copies[j] : records;
        }

        private int taken(int j, int kind, int what) {
            if (!isStore(j)) {
                return UNKNOWN;
            }
            if (kind < 0 || kind > 3 || what < 0 || what > 2) {
                return BAD;
            }
            if (kind > 0 && kinds[j] != kind) {
                return CAST;
            }
            return what == 0 ? kinds[j] : what == 1 ? (kinds[j] == 1 ? lies[j] : NONE)
                : kinds[j] == 3 ? NONE : copyOf(j)[0];
        }

        private int sum(int[] at) {
            for (int k = 0; k < m; k++) {
                if (!isNumber(at[k])) {
                    return BAD;
                }
            }
            return sumOf(records, at);
        }

        private int sumOf(int[] copy, int[] at) {
            long whole = 0;
            for (int i = 0; i < n; i++) {
                long part = copy[i];
                for (int k = 0; k < m; k++) {
                    part *= (i & 1 << k) != 0 ? at[k] : 1 - at[k];
                }
                whole += part;
            }
            return (int) Math.floorMod(whole, (long) P);
        }

        private static int[] lots(int seed, int many) {
            int[] drawn = new int[many];
            long z = seed;
            for (int q = 0; q < many; q++) {
                z = Math.floorMod(1103515245L * z + 12345L, 2147483648L);
                drawn[q] = (int) (z / 256 % P);
            }
            return drawn;
        }

        private int ask(int i, int keptFrom, int seed) {
            if (!isRecord(i)) {
                return UNKNOWN;
            }
            if (keptFrom < 1 || keptFrom > 2 || seed < 0) {
                return BAD;
            }
            asked = true;
            wanted = i;
            t = keptFrom;
            veil = null;
            questions++;
            int[] r = lots(seed, m * t);
            points = new int[10][m];
            for (int j = 1; j <= 9; j++) {
                for (int k = 0; k < m; k++) {
                    points[j][k] = t == 1 ? pointBy(i, k, r[k], 0, j) : pointBy(i, k, r[2 * k], r[2 * k + 1], j);
                }
            }
            return m * t;
        }

        private static int pointBy(int i, int k, int r1, int r2, int j) {
            return ((i >> k & 1) + r1 * j + r2 * j * j) % P;
        }

        private int veil(int seed) {
            if (seed < 0 && seed != NONE) {
                return BAD;
            }
            if (!asked) {
                return STATE;
            }
            int before = veil == null ? 0 : 1;
            veil = seed == NONE ? null : lots(seed, m * t);
            return before;
        }

        private int answer(int j) {
            long told = sumOf(copyOf(j), points[j]) + (kinds[j] == 1 ? lies[j] : 0);
            long power = 1;
            for (int q = 0; veil != null && q < m * t; q++) {
                power *= j;
                told += veil[q] * power;
            }
            return (int) (told % P);
        }

        private List<Integer> telling(int s) {
            List<Integer> found = new ArrayList<>();
            for (int j = 1; j <= s; j++) {
                if (kinds[j] != 3) {
                    found.add(j);
                }
            }
            return found;
        }

        private int row(int s) {
            return !isStore(s) ? BAD : !asked || telling(s).size() <= m * t ? STATE : 0;
        }

        /** By Lagrange: the number at a place of the polynomial through the answers of some stores. */
        private int through(List<Integer> some, int at) {
            long value = 0;
            for (int j : some) {
                long part = answer(j);
                for (int other : some) {
                    if (other != j) {
                        part = part * Math.floorMod(at - other, P) % P * inverse(Math.floorMod(j - other, P)) % P;
                    }
                }
                value += part;
            }
            return (int) (value % P);
        }

        private static int inverse(int v) {
            for (int w = 1; w < P; w++) {
                if (v * w % P == 1) {
                    return w;
                }
            }
            throw new IllegalStateException("no inverse");
        }

        private List<Integer> off(List<Integer> row, List<Integer> some) {
            List<Integer> found = new ArrayList<>();
            for (int j : row) {
                if (through(some, j) != answer(j)) {
                    found.add(j);
                }
            }
            return found;
        }

        private int fetch(int s) {
            if (row(s) != 0) {
                return row(s);
            }
            List<Integer> row = telling(s);
            up += s * m;
            down += row.size();
            int b = (row.size() - m * t - 1) / 2;
            for (List<Integer> some : rows(row, 0, m * t + 1)) {
                List<Integer> liars = off(row, some);
                if (liars.size() <= b) {
                    caught = liars;
                    return through(some, 0);
                }
            }
            return NONE;
        }

        /** All rows of so many of the stores from a place on, in the order of rows of numbers. */
        private static List<List<Integer>> rows(List<Integer> of, int from, int many) {
            List<List<Integer>> found = new ArrayList<>();
            if (many == 0) {
                found.add(new ArrayList<>());
            }
            for (int p = from; many > 0 && p <= of.size() - many; p++) {
                for (List<Integer> rest : rows(of, p + 1, many - 1)) {
                    rest.add(0, of.get(p));
                    found.add(rest);
                }
            }
            return found;
        }

        private boolean fits(int s, int v) {
            List<Integer> row = telling(s);
            List<Integer> first = row.subList(0, m * t + 1);
            return off(row, first).isEmpty() && through(first, 0) == v;
        }

        private int set(int set) {
            return !asked ? STATE : set < 2 || set > 1022 || set % 2 == 1 ? BAD : 0;
        }

        /** The lots of each number are tried apart, since no other number depends on them. */
        private long[] allWays(int set) {
            long[] ways = new long[n];
            Arrays.fill(ways, 1);
            for (int k = 0; k < m; k++) {
                long[] by = {waysOf(set, k, 0), waysOf(set, k, -1)};
                for (int i = 0; i < n; i++) {
                    ways[i] *= by[i >> k & 1];
                }
            }
            return ways;
        }

        private long waysOf(int set, int k, int i) {
            long found = 0;
            for (int r1 = 0; r1 < P; r1++) {
                for (int r2 = 0; r2 < (t == 1 ? 1 : P); r2++) {
                    boolean just = true;
                    for (int j = 1; just && j <= 9; j++) {
                        just = (set >> j & 1) == 0 || pointBy(i, k, r1, r2, j) == points[j][k];
                    }
                    found += just ? 1 : 0;
                }
            }
            return found;
        }

        private boolean unlike(int set) {
            return Arrays.stream(allWays(set)).distinct().count() > 1;
        }

        private int least() {
            if (!asked) {
                return STATE;
            }
            for (int set = 2; set <= 1022; set += 2) {
                if (unlike(set)) {
                    return set;
                }
            }
            return NONE;
        }

        private int mixed(int j, int set) {
            int told = 0;
            for (int i = 0; i < n; i++) {
                told ^= (set >> i & 1) * copyOf(j)[i];
            }
            return kinds[j] == 1 ? (told + lies[j]) % 128 : told;
        }

        private int pair(int a, int b, int set, int i) {
            if (!isStore(a) || !isStore(b) || !isRecord(i)) {
                return UNKNOWN;
            }
            if (a == b) {
                return STATE;
            }
            if (set < 0 || set >= 1 << n) {
                return BAD;
            }
            return kinds[a] == 3 || kinds[b] == 3 ? NONE : mixed(a, set) ^ mixed(b, set ^ 1 << i);
        }

        private int total(int what) {
            int trues = 0;
            for (int j = 1; j <= 9; j++) {
                trues += kinds[j] == 0 ? 1 : 0;
            }
            int[] totals = {n, up, down, questions, trues, asked ? 1 : 0, asked ? m * t : NONE};
            return what < 0 || what > 6 ? BAD : totals[what];
        }
    }
}
