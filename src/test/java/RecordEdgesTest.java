/** Each sentence of Term 1 and of promises 1 to 8 that names a boundary case. */
public final class RecordEdgesTest {
    private static final int UNKNOWN = Checks.UNKNOWN, BAD = Checks.BAD, STATE = Checks.STATE;
    private static final int NONE = Checks.NONE, CAST = Checks.CAST;
    private static final int LEAST = Checks.LEAST, MOST = Checks.MOST;
    private static final int TRUE = 0, LYING = 1, STALE = 2, LAZY = 3;

    public static void main(String[] args) {
        theConstants();
        aNewObjectHasTwoRecordsOfZero();
        aNewObjectHasTrueStores();
        aNewObjectHasNoQuestion();
        theFirst512Calls();
        recordsTakesOneToThree();
        recordsTellsHowManyThereWere();
        recordsLeavesAllRecordsZero();
        recordsLeavesAllStoresTrue();
        recordsLeavesNoQuestion();
        putTakesTheNumbers();
        putTellsWhatItWas();
        putKnowsTheRecordsThereAre();
        recordKnowsTheRecordsThereAre();
        storesAreOneToNine();
        kindsAreZeroToThree();
        aLieIsOneTo96();
        aLieIsLookedAtForLyingAlone();
        storeTellsWhatItWas();
        aLieIsReckonedModulo97();
        aStaleStoreLagsFromItsTurnOn();
        aStaleStoreMadeStaleAgain();
        aStaleStoreMadeAnotherKind();
        aLazyStoreTellsNothing();
        takenAsAny();
        takenAsItsKind();
        takenAsAnotherKind();
        takenOfWhat();
        theLieOfAStoreThatDoesNotLie();
        copyOfTheFirstAndTheLast();
        copyOfALyingStoreIsAsTheRecordsAre();
        copyOfALazyStore();
        sumAtBitsIsTheRecord();
        sumIsReckonedModulo97();
        sumTakesTheNumbers();
        sumLooksAtThoseOfMAlone();
        sumIsOfTheRecordsAsTheyAre();
        Checks.end();
    }

    // ---- Term 4, promise 1

    private static void theConstants() {
        Checks.due("4 UNKNOWN", SilentAsking.UNKNOWN, -1);
        Checks.due("4 BAD", SilentAsking.BAD, -2);
        Checks.due("4 STATE", SilentAsking.STATE, -3);
        Checks.due("4 NONE", SilentAsking.NONE, -9);
        Checks.due("4 CAST", SilentAsking.CAST, -13);
    }

    private static void aNewObjectHasTwoRecordsOfZero() {
        SilentAsking x = new SilentAsking();
        Checks.due("1 total(0)", x.total(0), 2);
        Checks.dueOfEach("1 record", x::record, 0, 0, 1);
        Checks.dueOfEach("1 record", x::record, UNKNOWN, -1, 2);
        Checks.due("1 records(1)", x.records(1), 2);
    }

    private static void aNewObjectHasTrueStores() {
        SilentAsking x = new SilentAsking();
        Checks.due("1 total(4)", x.total(4), 9);
        for (int j = 1; j <= 9; j++) {
            Checks.due("1 taken(j, 0, 0)", x.taken(j, 0, 0), TRUE);
            Checks.due("1 taken(j, 0, 1)", x.taken(j, 0, 1), NONE);
            Checks.due("1 taken(j, 0, 2)", x.taken(j, 0, 2), 0);
            Checks.due("1 copy(j, 1)", x.copy(j, 1), 0);
            Checks.due("1 both(j, 3)", x.both(j, 3), 0);
            Checks.due("1 caught(j)", x.caught(j), 0);
        }
    }

    private static void aNewObjectHasNoQuestion() {
        SilentAsking x = new SilentAsking();
        Checks.due("1 veil(0)", x.veil(0), STATE);
        Checks.due("1 point(1, 0)", x.point(1, 0), STATE);
        Checks.due("1 answer(1)", x.answer(1), STATE);
        Checks.due("1 fetch(9)", x.fetch(9), STATE);
        Checks.due("1 mends(9)", x.mends(9), STATE);
        Checks.due("1 ways(2, 0)", x.ways(2, 0), STATE);
        Checks.due("1 might(2)", x.might(2), STATE);
        Checks.due("1 learns(2)", x.learns(2), STATE);
        Checks.due("1 least()", x.least(), STATE);
        Checks.due("1 fits(9, 0)", x.fits(9, 0), STATE);
        Checks.dueOfEach("1 total", x::total, 0, 1, 2, 3, 5);
        Checks.due("1 total(6)", x.total(6), NONE);
    }

    private static void theFirst512Calls() {
        SilentAsking x = new SilentAsking();
        x.records(3);
        x.put(7, 96);
        x.ask(7, 2, MOST);
        for (int calls = 4; calls <= 510; calls++) {
            Checks.due("call " + calls + " fetch(9)", x.fetch(9), 96);
        }
        Checks.due("call 511 total(2)", x.total(2), 507 * 9);
        Checks.due("call 512 total(1)", x.total(1), 507 * 27);
    }

    // ---- promise 2

    private static void recordsTakesOneToThree() {
        SilentAsking x = new SilentAsking();
        Checks.dueOfEach("2 records", x::records, BAD, LEAST, NONE, -1, 0, 4, 8, MOST);
        Checks.due("2 records refused", x.total(0), 2);
        for (int m = 1; m <= 3; m++) {
            x.records(m);
            Checks.due("2 there are 2 to the " + m, x.total(0), 1 << m);
            Checks.due("2 the last record", x.record((1 << m) - 1), 0);
            Checks.due("2 the first beyond", x.record(1 << m), UNKNOWN);
        }
    }

    private static void recordsTellsHowManyThereWere() {
        SilentAsking x = new SilentAsking();
        int before = 2;
        for (int m : new int[] {1, 3, 3, 1, 2, 2, 3, 2, 1, 1}) {
            Checks.due("2 records(" + m + ")", x.records(m), before);
            before = 1 << m;
        }
    }

    private static void recordsLeavesAllRecordsZero() {
        SilentAsking x = Checks.with(96, 96, 96, 96, 96, 96, 96, 96);
        x.records(1);
        Checks.dueOfEach("2 record, fewer", x::record, 0, 0, 1);
        x.put(1, 5);
        x.records(1);
        Checks.due("2 record(1), as many", x.record(1), 0);
        x.records(3);
        Checks.dueOfEach("2 record, more", x::record, 0, 0, 1, 2, 3, 4, 5, 6, 7);
    }

    private static void recordsLeavesAllStoresTrue() {
        SilentAsking x = Checks.with(1, 2);
        for (int j = 1; j <= 9; j++) {
            x.store(j, 1 + j % 3, 7);
        }
        Checks.due("2 total(4)", x.total(4), 0);
        x.records(1);
        Checks.due("2 total(4) anew", x.total(4), 9);
        for (int j = 1; j <= 9; j++) {
            Checks.due("2 taken(j, 0, 0)", x.taken(j, 0, 0), TRUE);
            Checks.due("2 taken(j, 0, 1)", x.taken(j, 0, 1), NONE);
            Checks.due("2 copy(j, 1)", x.copy(j, 1), 0);
            Checks.due("2 both(j, 0)", x.both(j, 0), 0);
        }
    }

    private static void recordsLeavesNoQuestion() {
        SilentAsking x = Checks.with(1, 2);
        x.ask(1, 1, 4);
        x.records(0);
        Checks.due("2 refused: the question stays", x.total(5), 1);
        x.records(1);
        Checks.due("2 total(5)", x.total(5), 0);
        Checks.due("2 total(6)", x.total(6), NONE);
        Checks.due("2 answer(1)", x.answer(1), STATE);
        Checks.due("2 total(3), so far", x.total(3), 1);
    }

    // ---- promises 3 and 4

    private static void putTakesTheNumbers() {
        SilentAsking x = new SilentAsking();
        for (int i = 0; i <= 1; i++) {
            int record = i;
            Checks.due("3 the greatest", x.put(i, 96), 0);
            Checks.dueOfEach("3 no number", v -> x.put(record, v), BAD, LEAST, NONE, -1, 97, 128, MOST);
            Checks.due("3 refused: it stays", x.record(i), 96);
            Checks.due("3 the least", x.put(i, 0), 96);
            Checks.due("3 the least is there", x.record(i), 0);
        }
    }

    private static void putTellsWhatItWas() {
        SilentAsking x = new SilentAsking();
        for (int v = 0; v <= 96; v++) {
            Checks.due("3 put(1, " + v + ")", x.put(1, v), v == 0 ? 0 : v - 1);
        }
        Checks.due("3 put(1, 96), as it is", x.put(1, 96), 96);
        Checks.due("3 the other is not put", x.record(0), 0);
    }

    private static void putKnowsTheRecordsThereAre() {
        SilentAsking x = new SilentAsking();
        for (int m = 1; m <= 3; m++) {
            x.records(m);
            int n = 1 << m;
            Checks.due("3 the first", x.put(0, 3), 0);
            Checks.due("3 the last", x.put(n - 1, 3), 0);
            Checks.dueOfEach("3 no record", i -> x.put(i, 3), UNKNOWN, LEAST, -1, n, n + 1, 8, MOST);
            Checks.dueOfEach("3 no record before no number", i -> x.put(i, 97), UNKNOWN, -1, n);
        }
        x.records(3);
        Checks.dueOfEach("3 nothing came of what was refused", x::record, 0, 0, 1, 2, 3, 4, 5, 6, 7);
    }

    private static void recordKnowsTheRecordsThereAre() {
        SilentAsking x = Checks.with(10, 11, 12, 13, 14, 15, 16, 17);
        Checks.due("4 the first", x.record(0), 10);
        Checks.due("4 the last", x.record(7), 17);
        Checks.dueOfEach("4 no record", x::record, UNKNOWN, LEAST, NONE, -1, 8, 9, MOST);
        x.records(2);
        Checks.due("4 the last of four", x.record(3), 0);
        Checks.dueOfEach("4 no record of four", x::record, UNKNOWN, -1, 4, 7);
    }

    // ---- promise 5

    private static void storesAreOneToNine() {
        SilentAsking x = Checks.with(1, 2);
        x.ask(1, 1, 4);
        int[] none = {LEAST, NONE, -1, 0, 10, 11, 1024, MOST};
        Checks.dueOfEach("5 store", j -> x.store(j, 0, 0), UNKNOWN, none);
        Checks.dueOfEach("6 taken", j -> x.taken(j, 0, 0), UNKNOWN, none);
        Checks.dueOfEach("7 copy", j -> x.copy(j, 0), UNKNOWN, none);
        Checks.dueOfEach("11 point", j -> x.point(j, 0), UNKNOWN, none);
        Checks.dueOfEach("12 answer", x::answer, UNKNOWN, none);
        Checks.dueOfEach("15 caught", x::caught, UNKNOWN, none);
        Checks.dueOfEach("22 both", j -> x.both(j, 0), UNKNOWN, none);
        Checks.dueOfEach("23 pair, the first", j -> x.pair(j, 1, 0, 0), UNKNOWN, none);
        Checks.dueOfEach("23 pair, the second", j -> x.pair(1, j, 0, 0), UNKNOWN, none);
        Checks.due("5 store 1", x.store(1, 3, 0), TRUE);
        Checks.due("5 store 9", x.store(9, 3, 0), TRUE);
        Checks.due("5 they are no others", x.total(4), 7);
    }

    private static void kindsAreZeroToThree() {
        SilentAsking x = new SilentAsking();
        Checks.due("5 the greatest kind", x.store(1, 3, 5), TRUE);
        Checks.dueOfEach("5 no kind", kind -> x.store(1, kind, 5), BAD, LEAST, NONE, -1, 4, MOST);
        Checks.due("5 refused: it stays", x.taken(1, 0, 0), LAZY);
        Checks.due("5 the least kind", x.store(1, 0, 5), LAZY);
        Checks.dueOfEach("5 no store before no kind", kind -> x.store(10, kind, 5), UNKNOWN, -1, 4);
    }

    private static void aLieIsOneTo96() {
        SilentAsking x = new SilentAsking();
        Checks.due("5 the least lie", x.store(1, LYING, 1), TRUE);
        Checks.due("6 the least lie", x.taken(1, LYING, 1), 1);
        Checks.due("5 the greatest lie", x.store(1, LYING, 96), LYING);
        Checks.due("6 the greatest lie", x.taken(1, LYING, 1), 96);
        Checks.dueOfEach("5 no lie", d -> x.store(1, LYING, d), BAD, LEAST, -96, -1, 0, 97, 98, MOST);
        Checks.due("5 refused: it stays", x.taken(1, LYING, 1), 96);
        Checks.dueOfEach("5 no store before no lie", d -> x.store(0, LYING, d), UNKNOWN, 0, 97);
    }

    private static void aLieIsLookedAtForLyingAlone() {
        SilentAsking x = Checks.with(40, 50);
        for (int d : new int[] {LEAST, -1, 0, 97, MOST}) {
            Checks.due("5 stale", x.store(2, STALE, d), TRUE);
            Checks.due("5 lazy", x.store(2, LAZY, d), STALE);
            Checks.due("5 true", x.store(2, TRUE, d), LAZY);
            Checks.due("5 no lie is told", x.both(2, 1), 40);
        }
    }

    private static void storeTellsWhatItWas() {
        SilentAsking x = new SilentAsking();
        int before = TRUE;
        for (int kind : new int[] {0, 1, 1, 2, 2, 3, 3, 0, 2, 0, 3, 1, 3, 2, 1, 0}) {
            Checks.due("5 store(9, " + kind + ", 9)", x.store(9, kind, 9), before);
            before = kind;
        }
    }

    private static void aLieIsReckonedModulo97() {
        SilentAsking x = Checks.with(95, 95);
        x.ask(0, 1, 7);
        x.store(1, LYING, 1);
        Checks.due("12 below 97", x.answer(1), 96);
        x.store(1, LYING, 2);
        Checks.due("12 it is 97", x.answer(1), 0);
        x.store(1, LYING, 96);
        Checks.due("12 beyond 97", x.answer(1), 94);
    }

    private static void aStaleStoreLagsFromItsTurnOn() {
        SilentAsking x = Checks.with(1, 2, 3, 4, 5, 6, 7, 8);
        x.put(0, 60);
        x.store(5, STALE, 0);
        x.put(0, 61);
        x.put(7, 62);
        Checks.due("5 what was put before it", x.copy(5, 0), 60);
        Checks.due("5 what was put after it", x.copy(5, 7), 8);
        Checks.due("6 record 0 of its copy", x.taken(5, STALE, 2), 60);
        Checks.due("22 the set of all", x.both(5, 255), 60 ^ 2 ^ 3 ^ 4 ^ 5 ^ 6 ^ 7 ^ 8);
        Checks.due("5 the others do not lag", x.copy(4, 7), 62);
        x.ask(7, 1, 3);
        x.put(7, 63);
        Checks.due("12 its answer lags", x.answer(5), laggingAnswer(x));
    }

    /** The answer of store 5 with the records as it has them. */
    private static int laggingAnswer(SilentAsking x) {
        SilentAsking y = Checks.with(60, 2, 3, 4, 5, 6, 7, 8);
        return y.sum(x.point(5, 0), x.point(5, 1), x.point(5, 2));
    }

    private static void aStaleStoreMadeStaleAgain() {
        SilentAsking x = Checks.with(1, 2);
        x.store(3, STALE, 0);
        x.put(1, 9);
        Checks.due("5 it lags", x.copy(3, 1), 2);
        Checks.due("5 stale again", x.store(3, STALE, 0), STALE);
        Checks.due("5 it has them as they are now", x.copy(3, 1), 9);
        x.put(1, 10);
        x.store(3, 4, 0);
        Checks.due("5 refused: it lags on", x.copy(3, 1), 9);
    }

    private static void aStaleStoreMadeAnotherKind() {
        SilentAsking x = Checks.with(1, 2);
        for (int kind : new int[] {TRUE, LYING}) {
            x.store(3, STALE, 0);
            int kept = x.record(1);
            x.put(1, kept + 5);
            Checks.due("5 it lags", x.copy(3, 1), kept);
            x.store(3, kind, 1);
            Checks.due("5 it lags no more", x.copy(3, 1), kept + 5);
        }
    }

    private static void aLazyStoreTellsNothing() {
        SilentAsking x = Checks.with(1, 2);
        x.store(9, LAZY, 0);
        x.ask(1, 1, 3);
        Checks.dueOfEach("7 copy", i -> x.copy(9, i), NONE, 0, 1);
        Checks.due("6 taken(9, 3, 2)", x.taken(9, LAZY, 2), NONE);
        Checks.due("12 answer(9)", x.answer(9), NONE);
        Checks.dueOfEach("22 both", set -> x.both(9, set), NONE, 0, 3);
        Checks.due("23 pair, the first", x.pair(9, 1, 0, 0), NONE);
        Checks.due("23 pair, the second", x.pair(1, 9, 0, 0), NONE);
        Checks.due("11 it gets its point", x.point(9, 0), (1 + Checks.lots(3, 1)[0] * 9) % 97);
    }

    // ---- promise 6

    /** Store 1 is true, 2 lies by 96, 3 is stale, 4 is lazy. */
    private static SilentAsking eachKind() {
        SilentAsking x = Checks.with(20, 30);
        x.store(2, LYING, 96);
        x.store(3, STALE, 0);
        x.store(4, LAZY, 0);
        x.put(0, 21);
        return x;
    }

    private static void takenAsAny() {
        SilentAsking x = eachKind();
        int[] lies = {NONE, 96, NONE, NONE};
        int[] firsts = {21, 21, 20, NONE};
        for (int kind = 0; kind <= 3; kind++) {
            Checks.due("6 its kind", x.taken(kind + 1, 0, 0), kind);
            Checks.due("6 its lie", x.taken(kind + 1, 0, 1), lies[kind]);
            Checks.due("6 its record 0", x.taken(kind + 1, 0, 2), firsts[kind]);
        }
    }

    private static void takenAsItsKind() {
        SilentAsking x = eachKind();
        int[] lies = {NONE, 96, NONE, NONE};
        int[] firsts = {21, 21, 20, NONE};
        for (int kind = 1; kind <= 3; kind++) {
            Checks.due("6 its kind", x.taken(kind + 1, kind, 0), kind);
            Checks.due("6 its lie", x.taken(kind + 1, kind, 1), lies[kind]);
            Checks.due("6 its record 0", x.taken(kind + 1, kind, 2), firsts[kind]);
        }
    }

    private static void takenAsAnotherKind() {
        SilentAsking x = eachKind();
        for (int kind = 1; kind <= 3; kind++) {
            for (int other = 0; other <= 3; other++) {
                if (other != kind) {
                    int j = other + 1;
                    int as = kind;
                    Checks.dueOfEach("6 store " + j + " as " + as, what -> x.taken(j, as, what), CAST, 0, 1, 2);
                }
            }
        }
        Checks.dueOfEach("6 BAD before CAST", what -> x.taken(1, 3, what), BAD, -1, 3);
        Checks.dueOfEach("6 UNKNOWN before CAST", j -> x.taken(j, 3, 0), UNKNOWN, 0, 10);
    }

    private static void takenOfWhat() {
        SilentAsking x = eachKind();
        Checks.dueOfEach("6 no such what", what -> x.taken(2, 1, what), BAD, LEAST, NONE, -1, 3, 4, MOST);
        Checks.dueOfEach("6 no such what, of any", what -> x.taken(4, 0, what), BAD, -1, 3);
        Checks.dueOfEach("6 no such kind", kind -> x.taken(2, kind, 0), BAD, LEAST, NONE, -1, 4, MOST);
        Checks.dueOfEach("6 UNKNOWN before BAD", kind -> x.taken(10, kind, 0), UNKNOWN, -1, 4);
        Checks.dueOfEach("6 UNKNOWN before BAD", what -> x.taken(0, 0, what), UNKNOWN, -1, 3);
    }

    private static void theLieOfAStoreThatDoesNotLie() {
        SilentAsking x = new SilentAsking();
        for (int kind : new int[] {STALE, LAZY, TRUE}) {
            x.store(2, LYING, 50);
            Checks.due("6 it lies", x.taken(2, 0, 1), 50);
            x.store(2, kind, 50);
            Checks.due("6 it lies no more", x.taken(2, 0, 1), NONE);
        }
    }

    // ---- promise 7

    private static void copyOfTheFirstAndTheLast() {
        SilentAsking x = Checks.with(1, 2, 3, 96);
        for (int j = 1; j <= 9; j += 8) {
            int which = j;
            Checks.due("7 the first", x.copy(j, 0), 1);
            Checks.due("7 the last", x.copy(j, 3), 96);
            Checks.dueOfEach("7 no record", i -> x.copy(which, i), UNKNOWN, LEAST, -1, 4, 7, 8, MOST);
        }
        x.store(1, STALE, 0);
        Checks.dueOfEach("7 no record of a stale one", i -> x.copy(1, i), UNKNOWN, -1, 4, 7, 8);
    }

    private static void copyOfALyingStoreIsAsTheRecordsAre() {
        SilentAsking x = Checks.with(1, 96);
        x.store(1, LYING, 96);
        Checks.due("7 copy(1, 0)", x.copy(1, 0), 1);
        Checks.due("7 copy(1, 1)", x.copy(1, 1), 96);
        x.put(1, 5);
        Checks.due("7 copy(1, 1)", x.copy(1, 1), 5);
        Checks.due("6 taken(1, 1, 2)", x.taken(1, LYING, 2), 1);
    }

    private static void copyOfALazyStore() {
        SilentAsking x = Checks.with(1, 96);
        x.store(1, LAZY, 0);
        Checks.dueOfEach("7 NONE", i -> x.copy(1, i), NONE, 0, 1);
        Checks.dueOfEach("7 the refusal is told", i -> x.copy(1, i), UNKNOWN, -1, 2);
        x.store(1, TRUE, 0);
        Checks.due("7 lazy no more", x.copy(1, 1), 96);
    }

    // ---- promise 8

    private static void sumAtBitsIsTheRecord() {
        for (int m = 1; m <= 3; m++) {
            SilentAsking x = new SilentAsking();
            x.records(m);
            for (int i = 0; i < 1 << m; i++) {
                x.put(i, 96 - 13 * i);
            }
            for (int i = 0; i < 1 << m; i++) {
                Checks.due("8 at the bits of " + i, x.sum(i & 1, i >> 1 & 1, i >> 2 & 1), 96 - 13 * i);
            }
        }
    }

    private static void sumIsReckonedModulo97() {
        // With records r and 0 the sum is r times 1 - x; with 0 and r it is r times x.
        SilentAsking x = Checks.with(0, 96);
        Checks.due("8 96 times 1", x.sum(1, 0, 0), 96);
        Checks.due("8 96 times 2", x.sum(2, 0, 0), 95);
        Checks.due("8 96 times 96", x.sum(96, 0, 0), 1);
        SilentAsking y = Checks.with(96, 0);
        Checks.due("8 96 times 1 - 2", y.sum(2, 0, 0), 1);
        Checks.due("8 96 times 1 - 96", y.sum(96, 0, 0), 95);
        SilentAsking z = Checks.with(48, 49);
        Checks.due("8 48 (1 - 49) + 49 49, which is 97", z.sum(49, 0, 0), 0);
        Checks.due("8 48 (1 - 48) + 49 48, which is 96", z.sum(48, 0, 0), 96);
        Checks.due("8 48 (1 - 50) + 49 50, which is 98", z.sum(50, 0, 0), 1);
        SilentAsking all = Checks.with(96, 96, 96, 96, 96, 96, 96, 96);
        Checks.due("8 alike everywhere", all.sum(96, 96, 96), 96);
        SilentAsking last = Checks.with(0, 0, 0, 0, 0, 0, 0, 96);
        Checks.due("8 96 times 96 96 96", last.sum(96, 96, 96), 1);
    }

    private static void sumTakesTheNumbers() {
        SilentAsking x = Checks.with(0, 1, 2, 3, 4, 5, 6, 7);
        int[] none = {LEAST, NONE, -1, 97, 98, MOST};
        Checks.due("8 the least", x.sum(0, 0, 0), 0);
        Checks.due("8 the greatest", x.sum(96, 96, 96), 90);
        Checks.dueOfEach("8 x 0", v -> x.sum(v, 0, 0), BAD, none);
        Checks.dueOfEach("8 x 1", v -> x.sum(0, v, 0), BAD, none);
        Checks.dueOfEach("8 x 2", v -> x.sum(0, 0, v), BAD, none);
    }

    private static void sumLooksAtThoseOfMAlone() {
        int[] any = {LEAST, -1, 0, 50, 97, MOST};
        SilentAsking x = Checks.with(3, 7);
        Checks.dueOfEach("8 x 1 of one", v -> x.sum(1, v, 0), 7, any);
        Checks.dueOfEach("8 x 2 of one", v -> x.sum(0, 0, v), 3, any);
        Checks.dueOfEach("8 x 0 of one", v -> x.sum(v, 0, 0), BAD, -1, 97);
        SilentAsking y = Checks.with(3, 7, 11, 13);
        Checks.dueOfEach("8 x 2 of two", v -> y.sum(1, 1, v), 13, any);
        Checks.dueOfEach("8 x 1 of two", v -> y.sum(1, v, 0), BAD, -1, 97);
    }

    private static void sumIsOfTheRecordsAsTheyAre() {
        SilentAsking x = Checks.with(3, 7);
        for (int j = 1; j <= 9; j++) {
            x.store(j, 1 + j % 3, 5);
        }
        x.put(0, 4);
        Checks.due("8 sum(0, 0, 0)", x.sum(0, 0, 0), 4);
        Checks.due("8 sum(1, 0, 0)", x.sum(1, 0, 0), 7);
    }
}
