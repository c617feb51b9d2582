/** At least one test for each promise: ordinary inputs, the edges that the document names, wrong inputs. */
public final class PromiseTest {
    private static final int UNKNOWN = -1, BAD = -2, STATE = -3, NONE = -9, CAST = -13;
    private static final int LEAST = Integer.MIN_VALUE, MOST = Integer.MAX_VALUE;

    private static int wrong = 0;

    private static void due(String call, long got, long want) {
        if (got != want) {
            wrong++;
            System.out.println(call + " answered " + got + ", due is " + want);
        }
    }

    public static void main(String[] args) {
        newObject();
        newObjectFetches();
        records();
        recordsBeginAnew();
        put();
        record();
        store();
        staleStores();
        taken();
        copy();
        sum();
        ask();
        askAgain();
        veil();
        veiledAnswers();
        point();
        answer();
        needed();
        fetch();
        fetchRefused();
        fetchOfTooManyLies();
        fetchTakesTheLiarsWord();
        fetchKeptFromTwo();
        caught();
        mends();
        ways();
        might();
        learns();
        least();
        fits();
        both();
        pair();
        total();
        refusalsChangeNothing();
        System.out.println(wrong == 0 ? "all answers are as due" : wrong + " answers are not as due");
        if (wrong != 0) {
            System.exit(1);
        }
    }

    /** Four records 10, 20, 30, 96. */
    private static SilentAsking four() {
        SilentAsking x = new SilentAsking();
        x.records(2);
        x.put(0, 10);
        x.put(1, 20);
        x.put(2, 30);
        x.put(3, 96);
        return x;
    }

    /** Eight records 1, 2, 4 .. 64, 96. */
    private static SilentAsking eight() {
        SilentAsking x = new SilentAsking();
        x.records(3);
        for (int i = 0; i < 7; i++) {
            x.put(i, 1 << i);
        }
        x.put(7, 96);
        return x;
    }

    private static void newObject() {
        SilentAsking x = new SilentAsking();
        due("1 total(0)", x.total(0), 2);
        due("1 record(0)", x.record(0), 0);
        due("1 record(1)", x.record(1), 0);
        due("1 total(4)", x.total(4), 9);
        due("1 total(5)", x.total(5), 0);
        due("1 total(6)", x.total(6), NONE);
        due("1 total(1)", x.total(1), 0);
        due("1 total(2)", x.total(2), 0);
        due("1 total(3)", x.total(3), 0);
        for (int j = 1; j <= 9; j++) {
            due("1 taken(j, 0, 0)", x.taken(j, 0, 0), 0);
            due("1 caught(j)", x.caught(j), 0);
        }
    }

    private static void newObjectFetches() {
        SilentAsking x = new SilentAsking();
        due("1 no question", x.fetch(9), STATE);
        due("1 both(9, 3)", x.both(9, 3), 0);
        due("1 ask(1, 2, 4)", x.ask(1, 2, 4), 2);
        due("1 not veiled", x.veil(NONE), 0);
        for (int j = 1; j <= 9; j++) {
            due("1 answer(" + j + ")", x.answer(j), 0);
            due("1 copy(" + j + ", 1)", x.copy(j, 1), 0);
        }
        due("1 fetch(3)", x.fetch(3), 0);
        x.put(1, 40);
        due("1 fetch(9)", x.fetch(9), 40);
    }

    private static void records() {
        SilentAsking x = new SilentAsking();
        due("2 records(0)", x.records(0), BAD);
        due("2 records(4)", x.records(4), BAD);
        due("2 records(-1)", x.records(-1), BAD);
        due("2 records(MOST)", x.records(MOST), BAD);
        due("2 records(LEAST)", x.records(LEAST), BAD);
        due("2 records(3)", x.records(3), 2);
        due("2 records(2)", x.records(2), 8);
        due("2 records(1)", x.records(1), 4);
        due("2 records(1) again", x.records(1), 2);
    }

    private static void recordsBeginAnew() {
        SilentAsking x = eight();
        x.store(1, 1, 5);
        x.store(2, 2, 0);
        x.store(3, 3, 0);
        x.ask(7, 1, 3);
        x.veil(5);
        x.fetch(9);
        due("2 caught(1)", x.caught(1), 1);
        due("2 records(3)", x.records(3), 8);
        for (int i = 0; i < 8; i++) {
            due("2 record(i)", x.record(i), 0);
        }
        due("2 total(4)", x.total(4), 9);
        due("2 total(5)", x.total(5), 0);
        due("2 copy(2, 1)", x.copy(2, 1), 0);
        due("2 veil(1)", x.veil(1), STATE);
        due("2 taken(1, 0, 1)", x.taken(1, 0, 1), NONE);
        due("2 total(1)", x.total(1), 27);
        due("2 total(2)", x.total(2), 8);
        due("2 total(3)", x.total(3), 1);
        due("15 caught(1) of the latest fetch", x.caught(1), 1);
    }

    private static void put() {
        SilentAsking x = new SilentAsking();
        due("3 put(0, 96)", x.put(0, 96), 0);
        due("3 put(0, 0)", x.put(0, 0), 96);
        due("3 put(1, 7)", x.put(1, 7), 0);
        due("3 put(1, 8)", x.put(1, 8), 7);
        due("3 put(1, 97)", x.put(1, 97), BAD);
        due("3 put(1, -1)", x.put(1, -1), BAD);
        due("3 put(2, 97)", x.put(2, 97), UNKNOWN);
        due("3 put(-1, 3)", x.put(-1, 3), UNKNOWN);
        due("3 put(LEAST, 3)", x.put(LEAST, 3), UNKNOWN);
        due("3 put(1, 9)", x.put(1, 9), 8);
        x.records(3);
        due("3 put(7, 1)", x.put(7, 1), 0);
        due("3 put(8, 1)", x.put(8, 1), UNKNOWN);
    }

    private static void record() {
        SilentAsking x = four();
        due("4 record(3)", x.record(3), 96);
        due("4 record(1)", x.record(1), 20);
        due("4 record(4)", x.record(4), UNKNOWN);
        due("4 record(-1)", x.record(-1), UNKNOWN);
        due("4 record(MOST)", x.record(MOST), UNKNOWN);
    }

    private static void store() {
        SilentAsking x = new SilentAsking();
        due("5 store(1, 1, 1)", x.store(1, 1, 1), 0);
        due("5 store(1, 2, -7)", x.store(1, 2, -7), 1);
        due("5 store(1, 3, 1000)", x.store(1, 3, 1000), 2);
        due("5 store(1, 0, LEAST)", x.store(1, 0, LEAST), 3);
        due("5 store(9, 1, 96)", x.store(9, 1, 96), 0);
        due("5 store(9, 1, 95)", x.store(9, 1, 95), 1);
        due("6 taken(9, 1, 1)", x.taken(9, 1, 1), 95);
        due("5 store(0, 9, 0)", x.store(0, 9, 0), UNKNOWN);
        due("5 store(10, 0, 0)", x.store(10, 0, 0), UNKNOWN);
        due("5 store(-1, 0, 0)", x.store(-1, 0, 0), UNKNOWN);
        due("5 store(1, 4, 0)", x.store(1, 4, 0), BAD);
        due("5 store(1, -1, 0)", x.store(1, -1, 0), BAD);
        due("5 store(1, 1, 0)", x.store(1, 1, 0), BAD);
        due("5 store(1, 1, 97)", x.store(1, 1, 97), BAD);
        due("5 store(1, 1, -1)", x.store(1, 1, -1), BAD);
        due("5 store(1, 0, 0)", x.store(1, 0, 0), 0);
    }

    private static void staleStores() {
        SilentAsking x = four();
        x.store(5, 2, 0);
        x.put(1, 21);
        due("5 a stale copy lags", x.copy(5, 1), 20);
        due("5 the others do not", x.copy(4, 1), 21);
        due("5 store(5, 2, 0)", x.store(5, 2, 0), 2);
        due("5 it became stale anew", x.copy(5, 1), 21);
        x.put(1, 22);
        x.store(5, 0, 0);
        due("5 it became true", x.copy(5, 1), 22);
        x.store(5, 3, 0);
        x.put(1, 23);
        x.store(5, 2, 0);
        due("5 it was lazy", x.copy(5, 1), 23);
        x.put(1, 24);
        x.store(5, 1, 3);
        due("5 it became lying", x.copy(5, 1), 24);
    }

    private static void taken() {
        SilentAsking x = four();
        x.store(2, 1, 41);
        x.store(3, 2, 0);
        x.store(4, 3, 0);
        x.put(0, 11);
        int[] kinds = {0, 1, 2, 3};
        int[] lies = {NONE, 41, NONE, NONE};
        int[] firsts = {11, 11, 10, NONE};
        for (int j = 1; j <= 4; j++) {
            int kind = j - 1;
            for (int as = 0; as <= 3; as++) {
                boolean cast = as != 0 && as != kind;
                due("6 taken(" + j + ", " + as + ", 0)", x.taken(j, as, 0), cast ? CAST : kinds[kind]);
                due("6 taken(" + j + ", " + as + ", 1)", x.taken(j, as, 1), cast ? CAST : lies[kind]);
                due("6 taken(" + j + ", " + as + ", 2)", x.taken(j, as, 2), cast ? CAST : firsts[kind]);
            }
        }
        due("6 taken(0, 9, 9)", x.taken(0, 9, 9), UNKNOWN);
        due("6 taken(10, 0, 0)", x.taken(10, 0, 0), UNKNOWN);
        due("6 taken(1, 4, 0)", x.taken(1, 4, 0), BAD);
        due("6 taken(1, -1, 0)", x.taken(1, -1, 0), BAD);
        due("6 taken(1, 0, 3)", x.taken(1, 0, 3), BAD);
        due("6 taken(1, 0, -1)", x.taken(1, 0, -1), BAD);
        due("6 taken(1, 1, 3)", x.taken(1, 1, 3), BAD);
    }

    private static void copy() {
        SilentAsking x = four();
        x.store(2, 1, 41);
        x.store(3, 2, 0);
        x.store(4, 3, 0);
        x.put(3, 95);
        due("7 copy(1, 3)", x.copy(1, 3), 95);
        due("7 copy(2, 3)", x.copy(2, 3), 95);
        due("7 copy(3, 3)", x.copy(3, 3), 96);
        due("7 copy(4, 3)", x.copy(4, 3), NONE);
        due("7 copy(4, 4)", x.copy(4, 4), UNKNOWN);
        due("7 copy(1, 4)", x.copy(1, 4), UNKNOWN);
        due("7 copy(1, -1)", x.copy(1, -1), UNKNOWN);
        due("7 copy(0, 0)", x.copy(0, 0), UNKNOWN);
        due("7 copy(10, 0)", x.copy(10, 0), UNKNOWN);
    }

    private static void sum() {
        SilentAsking x = eight();
        for (int i = 0; i < 8; i++) {
            due("8 at the bits of " + i, x.sum(i & 1, i >> 1 & 1, i >> 2), i == 7 ? 96 : 1 << i);
        }
        // The sum is linear in each number: along x0 it goes by 1, 2 and on, so by 3 at 2 and by 0 at -1.
        due("8 sum(2, 0, 0)", x.sum(2, 0, 0), 3);
        due("8 sum(96, 0, 0)", x.sum(96, 0, 0), 0);
        due("8 sum(0, 0, 97)", x.sum(0, 0, 97), BAD);
        due("8 sum(0, -1, 0)", x.sum(0, -1, 0), BAD);
        due("8 sum(LEAST, 0, 0)", x.sum(LEAST, 0, 0), BAD);
        x.store(1, 1, 5);
        due("8 records as they are", x.sum(0, 0, 0), 1);
        SilentAsking y = four();
        due("8 sum(2, 96, 0)", y.sum(2, 96, 0), 92);
        due("8 sum(0, 1, 97)", y.sum(0, 1, 97), 30);
        due("8 sum(0, 97, 0)", y.sum(0, 97, 0), BAD);
        SilentAsking z = new SilentAsking();
        z.put(1, 3);
        due("8 sum(50, -1, 97)", z.sum(50, -1, 97), 53);
        due("8 sum(97, 0, 0)", z.sum(97, 0, 0), BAD);
    }

    private static void ask() {
        SilentAsking x = new SilentAsking();
        for (int m = 1; m <= 3; m++) {
            x.records(m);
            due("9 kept from 1", x.ask(0, 1, 5), m);
            due("9 kept from 2", x.ask((1 << m) - 1, 2, 5), 2 * m);
            due("9 no such record", x.ask(1 << m, 1, 5), UNKNOWN);
        }
        due("9 ask(0, 1, MOST)", x.ask(0, 1, MOST), 3);
        due("9 ask(-1, 3, -1)", x.ask(-1, 3, -1), UNKNOWN);
        due("9 ask(0, 0, 0)", x.ask(0, 0, 0), BAD);
        due("9 ask(0, 3, 0)", x.ask(0, 3, 0), BAD);
        due("9 ask(0, 1, -1)", x.ask(0, 1, -1), BAD);
        due("9 ask(0, 1, LEAST)", x.ask(0, 1, LEAST), BAD);
        due("9 ask(0, 1, NONE)", x.ask(0, 1, NONE), BAD);
    }

    private static void askAgain() {
        SilentAsking x = four();
        x.ask(3, 2, 12345);
        x.veil(4);
        due("9 ask(3, 1, 12345)", x.ask(3, 1, 12345), 2);
        due("9 it is not veiled", x.veil(NONE), 0);
        due("9 answer(1)", x.answer(1), 7);
        due("9 total(3)", x.total(3), 2);
        due("9 total(6)", x.total(6), 2);
    }

    private static void veil() {
        SilentAsking x = four();
        due("10 veil(-1), no question", x.veil(-1), BAD);
        due("10 veil(0), no question", x.veil(0), STATE);
        due("10 veil(NONE), no question", x.veil(NONE), STATE);
        x.ask(1, 1, 8);
        due("10 veil(NONE)", x.veil(NONE), 0);
        due("10 veil(0)", x.veil(0), 0);
        due("10 veil(MOST)", x.veil(MOST), 1);
        due("10 veil(-8)", x.veil(-8), BAD);
        due("10 veil(LEAST)", x.veil(LEAST), BAD);
        due("10 veil(NONE)", x.veil(NONE), 1);
        due("10 veil(NONE) again", x.veil(NONE), 0);
    }

    /** The lots of a seed, reckoned here by shifts of longs and not by the program. */
    private static int[] lots(int seed, int many) {
        int[] drawn = new int[many];
        long z = seed;
        for (int q = 0; q < many; q++) {
            z = 1103515245L * z + 12345L & 0x7fffffffL;
            drawn[q] = (int) ((z >> 8) % 97);
        }
        return drawn;
    }

    private static int power(int j, int to) {
        int value = 1;
        for (int q = 0; q < to; q++) {
            value = value * j % 97;
        }
        return value;
    }

    private static void veiledAnswers() {
        SilentAsking x = eight();
        x.ask(5, 2, 99);
        x.store(4, 1, 33);
        int[] plain = new int[10];
        for (int j = 1; j <= 9; j++) {
            plain[j] = x.answer(j);
        }
        int[] drawn = lots(2147483647, 6);
        x.veil(2147483647);
        for (int j = 1; j <= 9; j++) {
            int more = plain[j];
            for (int q = 1; q <= 6; q++) {
                more += drawn[q - 1] * power(j, q);
            }
            due("10 veiled answer(" + j + ")", x.answer(j), more % 97);
        }
        x.veil(NONE);
        for (int j = 1; j <= 9; j++) {
            due("10 unveiled answer(" + j + ")", x.answer(j), plain[j]);
        }
    }

    private static void point() {
        SilentAsking x = eight();
        due("11 point(0, 9), no question", x.point(0, 9), UNKNOWN);
        due("11 point(1, 9), no question", x.point(1, 9), STATE);
        for (int t = 1; t <= 2; t++) {
            for (int i = 0; i < 8; i++) {
                x.ask(i, t, 2147483600 + i);
                int[] drawn = lots(2147483600 + i, 3 * t);
                for (int j = 1; j <= 9; j++) {
                    for (int k = 0; k < 3; k++) {
                        int number = (i >> k & 1) + drawn[k * t] * j + (t == 2 ? drawn[k * t + 1] * j * j : 0);
                        due("11 point(" + j + ", " + k + ")", x.point(j, k), number % 97);
                    }
                }
            }
        }
        due("11 point(1, 3)", x.point(1, 3), BAD);
        due("11 point(1, -1)", x.point(1, -1), BAD);
        due("11 point(10, 0)", x.point(10, 0), UNKNOWN);
        x.records(1);
        x.ask(0, 1, 1);
        due("11 point(1, 0)", x.point(1, 0), 71);
        due("11 point(1, 1)", x.point(1, 1), BAD);
    }

    private static void answer() {
        SilentAsking x = four();
        x.store(6, 3, 0);
        due("12 answer(0), no question", x.answer(0), UNKNOWN);
        due("12 answer(6), no question", x.answer(6), STATE);
        x.ask(3, 1, 12345);
        due("12 answer(0)", x.answer(0), UNKNOWN);
        due("12 answer(10)", x.answer(10), UNKNOWN);
        due("12 answer(6)", x.answer(6), NONE);
        for (int j = 1; j <= 5; j++) {
            due("12 answer(" + j + ")", x.answer(j), x.sum(x.point(j, 0), x.point(j, 1), 0));
        }
        due("12 answer(1)", x.answer(1), 7);
        x.store(1, 1, 95);
        due("12 a lie", x.answer(1), 5);
        x.store(2, 2, 0);
        x.put(0, 77);
        due("12 a lagging copy", x.answer(2), 22);
        due("12 a copy as records are", x.answer(3), x.sum(x.point(3, 0), x.point(3, 1), 0));
    }

    private static void needed() {
        SilentAsking x = new SilentAsking();
        for (int m = 1; m <= 3; m++) {
            for (int t = 1; t <= 2; t++) {
                for (int lies = 0; lies <= 4; lies++) {
                    due("13 needed", x.needed(m, t, lies), m * t + 1 + lies + lies);
                }
            }
        }
        due("13 needed(0, 1, 0)", x.needed(0, 1, 0), BAD);
        due("13 needed(4, 1, 0)", x.needed(4, 1, 0), BAD);
        due("13 needed(1, 0, 0)", x.needed(1, 0, 0), BAD);
        due("13 needed(1, 3, 0)", x.needed(1, 3, 0), BAD);
        due("13 needed(1, 1, -1)", x.needed(1, 1, -1), BAD);
        due("13 needed(1, 1, 5)", x.needed(1, 1, 5), BAD);
        due("13 needed(MOST, MOST, MOST)", x.needed(MOST, MOST, MOST), BAD);
    }

    private static void fetch() {
        SilentAsking x = four();
        x.ask(3, 1, 12345);
        for (int s = 3; s <= 9; s++) {
            due("14 fetch(" + s + ")", x.fetch(s), 96);
        }
        x.store(1, 1, 1);
        x.store(5, 1, 96);
        x.store(9, 1, 50);
        due("14 three lies of nine", x.fetch(9), 96);
        due("15 caught(1)", x.caught(1), 1);
        due("15 caught(5)", x.caught(5), 1);
        due("15 caught(9)", x.caught(9), 1);
        x.store(2, 3, 0);
        x.store(3, 3, 0);
        due("14 three lies of seven", x.fetch(9), NONE);
        x.store(9, 0, 0);
        due("14 two lies of seven", x.fetch(9), 96);
        x.veil(55);
        due("14 veiled", x.fetch(9), 96);
        x.put(3, 4);
        due("14 records as they are", x.fetch(9), 4);
    }

    private static void fetchRefused() {
        SilentAsking x = four();
        due("14 fetch(0), no question", x.fetch(0), BAD);
        due("14 fetch(10), no question", x.fetch(10), BAD);
        due("14 fetch(-1), no question", x.fetch(-1), BAD);
        due("14 fetch(9), no question", x.fetch(9), STATE);
        x.ask(3, 1, 12345);
        due("14 fetch(2)", x.fetch(2), STATE);
        x.store(2, 3, 0);
        due("14 fetch(3), one lazy", x.fetch(3), STATE);
        due("14 fetch(4), one lazy", x.fetch(4), 96);
        due("14 fetch(MOST)", x.fetch(MOST), BAD);
        due("14 fetch(LEAST)", x.fetch(LEAST), BAD);
        for (int j = 1; j <= 9; j++) {
            x.store(j, 3, 0);
        }
        due("14 all lazy", x.fetch(9), STATE);
    }

    private static void fetchOfTooManyLies() {
        SilentAsking x = four();
        x.ask(2, 1, 700);
        x.store(3, 1, 9);
        x.fetch(5);
        due("15 caught(3)", x.caught(3), 1);
        x.store(1, 1, 20);
        due("14 two lies of five", x.fetch(5), NONE);
        due("15 a fetch that told nothing", x.caught(3), 1);
        due("15 a fetch that told nothing", x.caught(1), 0);
    }

    private static void fetchTakesTheLiarsWord() {
        SilentAsking x = four();
        x.ask(2, 1, 700);
        for (int j = 1; j <= 9; j++) {
            x.store(j, 1, 9);
        }
        due("14 all lie alike", x.fetch(9), 39);
        due("15 none is caught", x.caught(1), 0);
        x.store(4, 0, 0);
        due("14 the true one is off the curve", x.fetch(9), 39);
        due("15 it is caught", x.caught(4), 1);
        x.store(4, 1, 9);
        x.put(2, 90);
        due("14 a lie wraps", x.fetch(9), 2);
    }

    private static void fetchKeptFromTwo() {
        SilentAsking x = eight();
        x.ask(6, 2, 31415);
        due("14 fetch(6)", x.fetch(6), STATE);
        due("14 fetch(7)", x.fetch(7), 64);
        due("14 fetch(8)", x.fetch(8), 64);
        x.store(8, 1, 1);
        due("14 one too many", x.fetch(8), NONE);
        due("14 one lie of nine", x.fetch(9), 64);
        x.store(7, 1, 1);
        due("14 two lies of nine", x.fetch(9), NONE);
    }

    private static void caught() {
        SilentAsking x = four();
        due("15 caught(0)", x.caught(0), UNKNOWN);
        due("15 caught(10)", x.caught(10), UNKNOWN);
        due("15 caught(LEAST)", x.caught(LEAST), UNKNOWN);
        x.ask(1, 1, 3);
        x.store(1, 1, 3);
        x.store(9, 1, 3);
        due("15 no fetch yet", x.caught(1), 0);
        due("15 fetch(5)", x.fetch(5), 20);
        due("15 caught(1)", x.caught(1), 1);
        due("15 not asked", x.caught(9), 0);
        x.fetch(2);
        due("15 a refused fetch", x.caught(1), 1);
        x.ask(0, 1, 9);
        due("15 another question", x.caught(1), 1);
        x.store(1, 0, 0);
        due("15 it was caught", x.caught(1), 1);
        due("15 fetch(9)", x.fetch(9), 10);
        due("15 caught(1)", x.caught(1), 0);
        due("15 caught(9)", x.caught(9), 1);
        x.store(9, 3, 0);
        due("15 fetch(9)", x.fetch(9), 10);
        due("15 a lazy one", x.caught(9), 0);
    }

    private static void mends() {
        SilentAsking x = four();
        due("16 mends(0), no question", x.mends(0), BAD);
        due("16 mends(3), no question", x.mends(3), STATE);
        x.ask(0, 1, 1);
        int[] mended = {STATE, STATE, 0, 0, 1, 1, 2, 2, 3};
        for (int s = 1; s <= 9; s++) {
            due("16 mends(" + s + ")", x.mends(s), mended[s - 1]);
        }
        x.store(1, 3, 0);
        due("16 mends(9), one lazy", x.mends(9), 2);
        due("16 mends(3), one lazy", x.mends(3), STATE);
        due("16 mends(10)", x.mends(10), BAD);
        due("16 mends(-1)", x.mends(-1), BAD);
        due("16 no words", x.total(1), 0);
        x.records(1);
        x.ask(0, 1, 1);
        due("16 mends(9), D is 1", x.mends(9), 3);
        x.records(3);
        x.ask(0, 2, 1);
        due("16 mends(8), D is 6", x.mends(8), 0);
        due("16 mends(9), D is 6", x.mends(9), 1);
    }

    private static void ways() {
        SilentAsking x = four();
        due("17 ways(0, 9), no question", x.ways(0, 9), STATE);
        x.ask(2, 2, 77);
        due("17 one store", x.ways(2, 0), 97 * 97);
        due("17 one store", x.ways(512, 3), 97 * 97);
        due("17 two stores", x.ways(514, 1), 1);
        due("17 three stores", x.ways(522, 2), 1);
        due("17 three stores", x.ways(522, 1), 0);
        due("17 all stores", x.ways(1022, 2), 1);
        due("17 all stores", x.ways(1022, 3), 0);
        due("17 ways(0, 9)", x.ways(0, 9), BAD);
        due("17 ways(1, 0)", x.ways(1, 0), BAD);
        due("17 ways(3, 0)", x.ways(3, 0), BAD);
        due("17 ways(1024, 0)", x.ways(1024, 0), BAD);
        due("17 ways(1026, 0)", x.ways(1026, 0), BAD);
        due("17 ways(-2, 0)", x.ways(-2, 0), BAD);
        due("17 ways(LEAST, 0)", x.ways(LEAST, 0), BAD);
        due("17 ways(2, 4)", x.ways(2, 4), UNKNOWN);
        due("17 ways(2, -1)", x.ways(2, -1), UNKNOWN);
        x.ask(1, 1, 77);
        due("17 kept from one: one store", x.ways(16, 3), 1);
        due("17 kept from one: two stores", x.ways(48, 3), 0);
        due("17 kept from one: two stores", x.ways(48, 1), 1);
        x.records(3);
        x.ask(1, 2, 77);
        due("17 one store, eight records", x.ways(4, 7), 912673);
    }

    private static void might() {
        SilentAsking x = four();
        due("18 might(0), no question", x.might(0), STATE);
        x.ask(2, 2, 77);
        due("18 might(2)", x.might(2), 4);
        due("18 might(6)", x.might(6), 4);
        due("18 might(14)", x.might(14), 1);
        due("18 might(1022)", x.might(1022), 1);
        due("18 might(0)", x.might(0), BAD);
        due("18 might(1)", x.might(1), BAD);
        due("18 might(1024)", x.might(1024), BAD);
        due("18 might(-1)", x.might(-1), BAD);
        x.records(1);
        x.ask(1, 1, 0);
        due("18 might(128)", x.might(128), 2);
        due("18 might(130)", x.might(130), 1);
    }

    private static void learns() {
        SilentAsking x = four();
        due("19 learns(0), no question", x.learns(0), STATE);
        x.ask(0, 2, 77);
        due("19 learns(2)", x.learns(2), 0);
        due("19 learns(514)", x.learns(514), 0);
        due("19 learns(546)", x.learns(546), 1);
        due("19 learns(1022)", x.learns(1022), 1);
        due("19 learns(0)", x.learns(0), BAD);
        due("19 learns(7)", x.learns(7), BAD);
        due("19 learns(1024)", x.learns(1024), BAD);
        due("19 learns(LEAST)", x.learns(LEAST), BAD);
        x.ask(3, 1, 77);
        due("19 learns(512)", x.learns(512), 0);
        due("19 learns(514)", x.learns(514), 1);
        x.records(1);
        x.ask(1, 1, 77);
        due("19 two records", x.learns(128), 0);
        due("19 two records", x.learns(130), 1);
    }

    private static void least() {
        SilentAsking x = eight();
        due("20 no question", x.least(), STATE);
        x.ask(7, 1, 0);
        due("20 kept from one", x.least(), 6);
        x.ask(7, 2, 0);
        due("20 kept from two", x.least(), 14);
        x.store(1, 3, 0);
        due("20 a lazy store got its point", x.least(), 14);
    }

    private static void fits() {
        SilentAsking x = four();
        due("21 fits(0, 0), no question", x.fits(0, 0), BAD);
        due("21 fits(3, 97), no question", x.fits(3, 97), BAD);
        due("21 fits(3, 0), no question", x.fits(3, 0), STATE);
        x.ask(1, 1, 9);
        due("21 fits(2, 20)", x.fits(2, 20), STATE);
        due("21 fits(10, 20)", x.fits(10, 20), BAD);
        due("21 fits(9, -1)", x.fits(9, -1), BAD);
        due("21 fits(9, 97)", x.fits(9, 97), BAD);
        for (int v = 0; v <= 96; v++) {
            due("21 fits(9, " + v + ")", x.fits(9, v), v == 20 ? 1 : 0);
        }
        x.veil(300);
        due("21 veiled", x.fits(9, 20), 1);
        due("21 no words", x.total(1), 0);
        x.store(9, 1, 1);
        due("21 a lie", x.fits(9, 20), 0);
        due("21 the lie is not asked", x.fits(8, 20), 1);
        x.store(9, 3, 0);
        due("21 a lazy store", x.fits(9, 20), 1);
        x.store(2, 3, 0);
        due("21 fits(3, 20), one lazy", x.fits(3, 20), STATE);
        for (int j = 1; j <= 9; j++) {
            x.store(j, 1, 80);
        }
        due("21 all lie alike", x.fits(9, 3), 1);
        due("21 all lie alike", x.fits(9, 20), 0);
    }

    private static void both() {
        SilentAsking x = eight();
        due("22 both(1, 0)", x.both(1, 0), 0);
        due("22 both(1, 127)", x.both(1, 127), 127);
        due("22 both(1, 192)", x.both(1, 192), 64 ^ 96);
        due("22 both(9, 255)", x.both(9, 255), 127 ^ 96);
        due("22 both(1, 256)", x.both(1, 256), BAD);
        due("22 both(1, -1)", x.both(1, -1), BAD);
        due("22 both(0, 256)", x.both(0, 256), UNKNOWN);
        due("22 both(10, 0)", x.both(10, 0), UNKNOWN);
        x.store(2, 1, 96);
        due("22 both(2, 0)", x.both(2, 0), 96);
        due("22 both(2, 127)", x.both(2, 127), 95);
        x.store(3, 2, 0);
        x.put(0, 3);
        due("22 a lagging copy", x.both(3, 1), 1);
        due("22 records as they are", x.both(1, 1), 3);
        x.store(4, 3, 0);
        due("22 both(4, 0)", x.both(4, 0), NONE);
        due("22 both(4, 256)", x.both(4, 256), BAD);
        x.records(1);
        due("22 both(1, 3)", x.both(1, 3), 0);
        due("22 both(1, 4)", x.both(1, 4), BAD);
    }

    private static void pair() {
        SilentAsking x = eight();
        for (int i = 0; i < 8; i++) {
            for (int set = 0; set < 256; set += 17) {
                due("23 pair(1, 9, " + set + ", " + i + ")", x.pair(1, 9, set, i), x.record(i));
            }
        }
        due("23 pair(0, 1, 999, 0)", x.pair(0, 1, 999, 0), UNKNOWN);
        due("23 pair(1, 10, 0, 0)", x.pair(1, 10, 0, 0), UNKNOWN);
        due("23 pair(1, 1, 0, 8)", x.pair(1, 1, 0, 8), UNKNOWN);
        due("23 pair(1, 2, 0, -1)", x.pair(1, 2, 0, -1), UNKNOWN);
        due("23 pair(1, 1, 256, 0)", x.pair(1, 1, 256, 0), STATE);
        due("23 pair(1, 2, 256, 0)", x.pair(1, 2, 256, 0), BAD);
        due("23 pair(1, 2, -1, 0)", x.pair(1, 2, -1, 0), BAD);
        x.store(2, 1, 96);
        due("23 the second lies", x.pair(1, 2, 0, 6), 32);
        due("23 the first lies", x.pair(2, 1, 0, 6), 96 ^ 64);
        x.store(3, 3, 0);
        due("23 the first is lazy", x.pair(3, 1, 0, 0), NONE);
        due("23 the second is lazy", x.pair(1, 3, 0, 0), NONE);
        due("23 a lazy one, a bad set", x.pair(1, 3, 256, 0), BAD);
        x.store(4, 2, 0);
        x.put(5, 0);
        due("23 a lagging copy", x.pair(1, 4, 0, 5), 32);
        due("23 a lagging copy", x.pair(4, 1, 0, 5), 0);
        due("23 i taken out", x.pair(1, 4, 32, 5), 0);
    }

    private static void total() {
        SilentAsking x = four();
        due("24 total(0)", x.total(0), 4);
        due("24 total(-1)", x.total(-1), BAD);
        due("24 total(7)", x.total(7), BAD);
        due("24 total(LEAST)", x.total(LEAST), BAD);
        x.store(1, 3, 0);
        x.store(2, 1, 5);
        due("24 total(4)", x.total(4), 7);
        x.fetch(9);
        due("24 a refused fetch", x.total(1), 0);
        x.ask(1, 2, 9);
        due("24 total(3)", x.total(3), 1);
        due("24 total(5)", x.total(5), 1);
        due("24 total(6)", x.total(6), 4);
        x.fetch(5);
        due("24 a refused fetch", x.total(1), 0);
        due("24 fetch(6)", x.fetch(6) >= 0 ? 1 : 0, 1);
        due("24 total(1)", x.total(1), 12);
        due("24 total(2)", x.total(2), 5);
        due("24 fetch(7)", x.fetch(7), NONE);
        due("24 total(1)", x.total(1), 26);
        due("24 total(2)", x.total(2), 11);
        x.answer(1);
        x.answer(2);
        x.both(3, 1);
        due("24 words of a fetch() alone", x.total(1) + x.total(2), 37);
        x.ask(1, 1, 9);
        x.ask(9, 1, 9);
        due("24 total(3)", x.total(3), 2);
        x.records(3);
        due("24 total(0)", x.total(0), 8);
        due("24 total(1) so far", x.total(1), 26);
        due("24 total(5)", x.total(5), 0);
        due("24 total(6)", x.total(6), NONE);
    }

    private static void refusalsChangeNothing() {
        SilentAsking x = four();
        x.ask(3, 1, 12345);
        x.veil(6);
        int before = x.answer(4);
        x.store(9, 2, 0);
        x.records(0);
        x.put(0, 97);
        x.put(4, 1);
        x.store(4, 1, 97);
        x.store(4, 4, 1);
        x.store(0, 3, 1);
        x.ask(4, 1, 1);
        x.ask(3, 3, 1);
        x.ask(3, 2, -1);
        x.veil(-1);
        x.sum(97, 0, 0);
        x.fetch(2);
        x.fetch(10);
        due("refused: answer(4)", x.answer(4), before);
        due("refused: total(0)", x.total(0), 4);
        due("refused: total(1)", x.total(1), 0);
        due("refused: total(3)", x.total(3), 1);
        due("refused: total(4)", x.total(4), 8);
        due("refused: total(6)", x.total(6), 2);
        due("refused: veil(NONE)", x.veil(NONE), 1);
        due("refused: fetch(9)", x.fetch(9), 96);
    }
}
