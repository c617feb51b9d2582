/**
 * One of some records fetched from stores that do not learn which, by points on curves through it.
 * ../shared/DOC.md tells, by numbered promises, what each call does and answers.
 */
public final class SilentAsking {
    public static final int UNKNOWN = -1, BAD = -2, STATE = -3, NONE = -9, CAST = -13;

    /** What a check answers that refuses nothing; no refusal is 0. */
    private static final int FINE = 0;

    private static final int PRIME = 97;
    private static final int STORES = 9;
    private static final int STORE_BITS = 1022;
    private static final int MOST_BITS = 3;
    private static final int MOST_RECORDS = 8;
    private static final int MOST_KEPT_FROM = 2;
    private static final int MOST_DEGREE = 6;
    private static final int MOST_LIES = 4;
    private static final int WORD = 128;

    private static final int TRUE = 0, LYING = 1, STALE = 2, LAZY = 3;

    /** The inverse of 1 .. 8 modulo the prime: two stores' numbers are never further apart. */
    private static final int[] INVERSE = {0, 1, 49, 65, 73, 39, 81, 14, 85};

    // All rows are made once, here and in the parts, so that no call makes an object.
    private final int[] numbers = new int[MOST_RECORDS];
    private final int[] place = new int[MOST_BITS];
    private final Store[] stores = new Store[STORES];
    private final Question question = new Question();
    private final Row row = new Row();
    private final Curve curve = new Curve();

    private int bits = 1;
    private int caughtSet = 0;
    private int wordsUp = 0;
    private int wordsDown = 0;
    private int questions = 0;

    public SilentAsking() {
        for (int j = 0; j < STORES; j++) {
            stores[j] = new Store();
        }
    }

    // ---- records, stores

    public int records(int m) {
        if (m < 1 || m > MOST_BITS) {
            return BAD;
        }
        int before = count();
        bits = m;
        for (int i = 0; i < MOST_RECORDS; i++) {
            numbers[i] = 0;
        }
        for (int j = 1; j <= STORES; j++) {
            storeOf(j).become(TRUE, 0, numbers);
        }
        question.asked = false;
        return before;
    }

    public int put(int i, int v) {
        if (!isRecord(i)) {
            return UNKNOWN;
        }
        if (!isNumber(v)) {
            return BAD;
        }
        int before = numbers[i];
        numbers[i] = v;
        return before;
    }

    public int record(int i) {
        return isRecord(i) ? numbers[i] : UNKNOWN;
    }

    public int store(int j, int kind, int d) {
        if (!isStore(j)) {
            return UNKNOWN;
        }
        if (!isKind(kind) || (kind == LYING && !isLie(d))) {
            return BAD;
        }
        Store store = storeOf(j);
        int before = store.kind;
        store.become(kind, d, numbers);
        return before;
    }

    public int taken(int j, int kind, int what) {
        if (!isStore(j)) {
            return UNKNOWN;
        }
        if (!isKind(kind) || what < 0 || what > 2) {
            return BAD;
        }
        Store store = storeOf(j);
        // As a kind to be taken as, 0 is any kind, not the true one.
        if (kind != 0 && kind != store.kind) {
            return CAST;
        }
        if (what == 0) {
            return store.kind;
        }
        if (what == 1) {
            return store.kind == LYING ? store.lie : NONE;
        }
        return copied(store, 0);
    }

    public int copy(int j, int i) {
        if (!isStore(j) || !isRecord(i)) {
            return UNKNOWN;
        }
        return copied(storeOf(j), i);
    }

    public int sum(int x0, int x1, int x2) {
        place[0] = x0;
        place[1] = x1;
        place[2] = x2;
        for (int k = 0; k < bits; k++) {
            if (!isNumber(place[k])) {
                return BAD;
            }
        }
        return sumAtPlace(numbers);
    }

    // ---- a question

    public int ask(int i, int t, int seed) {
        if (!isRecord(i)) {
            return UNKNOWN;
        }
        if (!isKeptFrom(t) || !isSeed(seed)) {
            return BAD;
        }
        question.begin(i, t, bits, seed);
        questions++;
        return question.degree;
    }

    public int veil(int seed) {
        if (seed != NONE && !isSeed(seed)) {
            return BAD;
        }
        if (!question.asked) {
            return STATE;
        }
        int before = question.veiled ? 1 : 0;
        question.veilBy(seed);
        return before;
    }

    public int point(int j, int k) {
        if (!isStore(j)) {
            return UNKNOWN;
        }
        if (!question.asked) {
            return STATE;
        }
        if (k < 0 || k >= bits) {
            return BAD;
        }
        return question.pointNumber(j, k);
    }

    public int answer(int j) {
        if (!isStore(j)) {
            return UNKNOWN;
        }
        if (!question.asked) {
            return STATE;
        }
        return storeOf(j).kind == LAZY ? NONE : toldBy(j);
    }

    public int needed(int m, int t, int lies) {
        if (m < 1 || m > MOST_BITS || !isKeptFrom(t) || lies < 0 || lies > MOST_LIES) {
            return BAD;
        }
        return m * t + 1 + 2 * lies;
    }

    public int fetch(int s) {
        int refusal = refusalOfFetch(s);
        if (refusal != FINE) {
            return refusal;
        }
        hearStores(s);
        wordsUp += s * bits;
        wordsDown += row.size;
        if (!findCurve(row.size - liesMended(row.size))) {
            return NONE;
        }
        caughtSet = row.storesOff(curve);
        return curve.at(0);
    }

    public int caught(int j) {
        if (!isStore(j)) {
            return UNKNOWN;
        }
        return bit(caughtSet, j);
    }

    public int mends(int s) {
        int refusal = refusalOfFetch(s);
        return refusal == FINE ? liesMended(tellingStores(s)) : refusal;
    }

    // ---- what is known

    public long ways(int set, int i) {
        int refusal = refusalOfSet(set);
        if (refusal != FINE) {
            return refusal;
        }
        return isRecord(i) ? question.countWays(set, i) : UNKNOWN;
    }

    public int might(int set) {
        int refusal = refusalOfSet(set);
        if (refusal != FINE) {
            return refusal;
        }
        int possible = 0;
        for (int i = 0; i < count(); i++) {
            if (question.countWays(set, i) > 0) {
                possible++;
            }
        }
        return possible;
    }

    public int learns(int set) {
        int refusal = refusalOfSet(set);
        if (refusal != FINE) {
            return refusal;
        }
        return tellsRecordsApart(set) ? 1 : 0;
    }

    public int least() {
        if (!question.asked) {
            return STATE;
        }
        for (int set = 2; set <= STORE_BITS; set += 2) {
            if (tellsRecordsApart(set)) {
                return set;
            }
        }
        return NONE;
    }

    public int fits(int s, int v) {
        if (!isStore(s) || !isNumber(v)) {
            return BAD;
        }
        int refusal = refusalOfFetch(s);
        if (refusal != FINE) {
            return refusal;
        }
        hearStores(s);
        curve.layThrough(row, firstPicks());
        return row.countOn(curve) == row.size && curve.at(0) == v ? 1 : 0;
    }

    // ---- two stores, by sets

    public int both(int j, int set) {
        if (!isStore(j)) {
            return UNKNOWN;
        }
        if (!isRecordSet(set)) {
            return BAD;
        }
        Store store = storeOf(j);
        return store.kind == LAZY ? NONE : toldOfSet(store, set);
    }

    public int pair(int a, int b, int set, int i) {
        if (!isStore(a) || !isStore(b) || !isRecord(i)) {
            return UNKNOWN;
        }
        if (a == b) {
            return STATE;
        }
        if (!isRecordSet(set)) {
            return BAD;
        }
        Store first = storeOf(a);
        Store second = storeOf(b);
        if (first.kind == LAZY || second.kind == LAZY) {
            return NONE;
        }
        return toldOfSet(first, set) ^ toldOfSet(second, set ^ (1 << i));
    }

    // ---- words

    public int total(int what) {
        switch (what) {
            case 0:
                return count();
            case 1:
                return wordsUp;
            case 2:
                return wordsDown;
            case 3:
                return questions;
            case 4:
                return trueStores();
            case 5:
                return question.asked ? 1 : 0;
            case 6:
                return question.asked ? question.degree : NONE;
            default:
                return BAD;
        }
    }

    // ---- what a call may be given

    private int count() {
        return 1 << bits;
    }

    private boolean isRecord(int i) {
        return i >= 0 && i < count();
    }

    private boolean isRecordSet(int set) {
        return set >= 0 && set < 1 << count();
    }

    private static boolean isStore(int j) {
        return j >= 1 && j <= STORES;
    }

    private static boolean isNumber(int v) {
        return v >= 0 && v < PRIME;
    }

    private static boolean isKind(int kind) {
        return kind >= TRUE && kind <= LAZY;
    }

    private static boolean isLie(int d) {
        return d >= 1 && d < PRIME;
    }

    private static boolean isKeptFrom(int t) {
        return t >= 1 && t <= MOST_KEPT_FROM;
    }

    private static boolean isSeed(int seed) {
        return seed >= 0;
    }

    private int refusalOfFetch(int s) {
        if (!isStore(s)) {
            return BAD;
        }
        return question.asked && tellingStores(s) > question.degree ? FINE : STATE;
    }

    private int refusalOfSet(int set) {
        if (!question.asked) {
            return STATE;
        }
        return set == 0 || (set & ~STORE_BITS) != 0 ? BAD : FINE;
    }

    // ---- what stores tell

    private Store storeOf(int j) {
        return stores[j - 1];
    }

    private int trueStores() {
        int found = 0;
        for (int j = 1; j <= STORES; j++) {
            if (storeOf(j).kind == TRUE) {
                found++;
            }
        }
        return found;
    }

    private int tellingStores(int s) {
        int found = 0;
        for (int j = 1; j <= s; j++) {
            if (storeOf(j).kind != LAZY) {
                found++;
            }
        }
        return found;
    }

    private int copied(Store store, int i) {
        return store.kind == LAZY ? NONE : store.held(numbers)[i];
    }

    private int toldBy(int j) {
        for (int k = 0; k < bits; k++) {
            place[k] = question.pointNumber(j, k);
        }
        Store store = storeOf(j);
        return (sumAtPlace(store.held(numbers)) + question.veilAt(j) + store.lie) % PRIME;
    }

    private int toldOfSet(Store store, int set) {
        int[] copy = store.held(numbers);
        int mixed = 0;
        for (int i = 0; i < count(); i++) {
            if (bit(set, i) == 1) {
                mixed ^= copy[i];
            }
        }
        return (mixed + store.lie) % WORD;
    }

    private int sumAtPlace(int[] copy) {
        int whole = 0;
        for (int i = 0; i < count(); i++) {
            int part = copy[i];
            for (int k = 0; k < bits; k++) {
                int factor = bit(i, k) == 1 ? place[k] : 1 + PRIME - place[k];
                part = part * factor % PRIME;
            }
            whole += part;
        }
        return whole % PRIME;
    }

    private static int bit(int set, int k) {
        return (set >> k) & 1;
    }

    private static int inverse(int gap) {
        return gap > 0 && gap < INVERSE.length ? INVERSE[gap] : 0;
    }

    // ---- the curve through what they tell

    private void hearStores(int s) {
        row.size = 0;
        for (int j = 1; j <= s; j++) {
            if (storeOf(j).kind != LAZY) {
                row.add(j, toldBy(j));
            }
        }
    }

    private int liesMended(int telling) {
        return (telling - question.degree - 1) / 2;
    }

    /** Picks have the row's first place as their highest bit, so falling picks are rising rows. */
    private boolean findCurve(int enough) {
        for (int picks = (1 << row.size) - 1; picks > 0; picks--) {
            if (Integer.bitCount(picks) == question.degree + 1) {
                curve.layThrough(row, picks);
                if (row.countOn(curve) >= enough) {
                    return true;
                }
            }
        }
        return false;
    }

    private int firstPicks() {
        int picked = question.degree + 1;
        return ((1 << picked) - 1) << (row.size - picked);
    }

    private boolean tellsRecordsApart(int set) {
        for (int i = 1; i < count(); i++) {
            if (question.countWays(set, i) != question.countWays(set, 0)) {
                return true;
            }
        }
        return false;
    }

    /** One of the stores; what it lies by is 0 unless it is lying. */
    private static final class Store {
        private final int[] kept = new int[MOST_RECORDS];
        private int kind = TRUE;
        private int lie = 0;

        private void become(int newKind, int d, int[] numbers) {
            kind = newKind;
            lie = newKind == LYING ? d : 0;
            if (newKind == STALE) {
                System.arraycopy(numbers, 0, kept, 0, MOST_RECORDS);
            }
        }

        private int[] held(int[] numbers) {
            return kind == STALE ? kept : numbers;
        }
    }

    /** The question that stands, if one does: its lots, and those of its veil. */
    private static final class Question {
        private final int[] lots = new int[MOST_DEGREE];
        private final int[] veils = new int[MOST_DEGREE];
        private boolean asked = false;
        private boolean veiled = false;
        private int wanted = 0;
        private int keptFrom = 1;
        private int bits = 1;
        private int degree = 1;

        private void begin(int i, int t, int m, int seed) {
            asked = true;
            veiled = false;
            wanted = i;
            keptFrom = t;
            bits = m;
            degree = m * t;
            drawLots(lots, seed);
        }

        private void veilBy(int seed) {
            veiled = seed != NONE;
            if (veiled) {
                drawLots(veils, seed);
            }
        }

        private void drawLots(int[] drawn, int seed) {
            long z = seed;
            for (int q = 0; q < degree; q++) {
                z = (1103515245L * z + 12345L) % 2147483648L;
                drawn[q] = (int) (z / 256 % PRIME);
            }
        }

        private int pointNumber(int j, int k) {
            return (bit(wanted, k) + risen(lots, k * keptFrom, keptFrom, j)) % PRIME;
        }

        private int veilAt(int j) {
            return veiled ? risen(veils, 0, degree, j) : 0;
        }

        /** The first of the many lots times j, the second times j j, and so on: their sum. */
        private static int risen(int[] drawn, int first, int many, int j) {
            int value = 0;
            for (int q = first + many - 1; q >= first; q--) {
                value = (value + drawn[q]) * j % PRIME;
            }
            return value;
        }

        /**
         * The lots of each bit are a polynomial of degree keptFrom whose number at 0 is that bit.
         * More stores than that degree fix the polynomial, and so the record that was asked for;
         * each store fewer than it leaves one number of the polynomial free, for every record alike.
         */
        private long countWays(int set, int i) {
            int free = keptFrom - Integer.bitCount(set);
            if (free < 0) {
                return i == wanted ? 1 : 0;
            }
            long found = 1;
            for (int q = 0; q < free * bits; q++) {
                found *= PRIME;
            }
            return found;
        }
    }

    /** The answers that came, by rising numbers of their stores. */
    private static final class Row {
        private final int[] who = new int[STORES];
        private final int[] told = new int[STORES];
        private int size = 0;

        private void add(int j, int number) {
            if (size < STORES) {
                who[size] = j;
                told[size] = number;
                size++;
            }
        }

        private boolean isOn(Curve curve, int p) {
            return curve.at(who[p]) == told[p];
        }

        private int countOn(Curve curve) {
            int found = 0;
            for (int p = 0; p < size; p++) {
                if (isOn(curve, p)) {
                    found++;
                }
            }
            return found;
        }

        private int storesOff(Curve curve) {
            int set = 0;
            for (int p = 0; p < size; p++) {
                if (!isOn(curve, p)) {
                    set |= 1 << who[p];
                }
            }
            return set;
        }
    }

    /** A polynomial through places that rise, as a sum of products (Newton's form): a place more leaves the rest. */
    private static final class Curve {
        private final int[] through = new int[MOST_DEGREE + 1];
        private final int[] factors = new int[MOST_DEGREE + 1];
        private int size = 0;

        private void layThrough(Row row, int picks) {
            size = 0;
            for (int p = 0; p < row.size; p++) {
                if (bit(picks, row.size - 1 - p) == 1) {
                    bend(row.who[p], row.told[p]);
                }
            }
        }

        private void bend(int x, int y) {
            if (size > MOST_DEGREE) {
                return;
            }
            int factor = y - at(x) + PRIME;
            for (int q = 0; q < size; q++) {
                factor = factor * inverse(x - through[q]) % PRIME;
            }
            through[size] = x;
            factors[size] = factor % PRIME;
            size++;
        }

        private int at(int x) {
            int value = 0;
            for (int q = size - 1; q >= 0; q--) {
                value = (value * (x - through[q] + PRIME) + factors[q]) % PRIME;
            }
            return value;
        }
    }
}
