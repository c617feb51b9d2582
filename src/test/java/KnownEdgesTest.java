/** Each sentence of Term 3 and of promises 17 to 24 that names a boundary case. */
public final class KnownEdgesTest {
    private static final int UNKNOWN = Checks.UNKNOWN, BAD = Checks.BAD, STATE = Checks.STATE, NONE = Checks.NONE;
    private static final int LEAST = Checks.LEAST, MOST = Checks.MOST;
    private static final int TRUE = 0, LYING = 1, STALE = 2, LAZY = 3;

    /** No bit of 1 .. 9, or others too. */
    private static final int[] NO_SETS = {LEAST, LEAST + 2, -1024, -2, -1, 0, 1, 3, 1023, 1024, 1026, 2047, MOST};

    public static void main(String[] args) {
        waysByTheSizeOfTheSet();
        waysOfEachRecord();
        waysTakeTheSetsOfOneToNine();
        waysTakeTheRecordsThereAre();
        waysTellFirst();
        waysAreTheSameWithAnyKindOfStore();
        mightByTheSizeOfTheSet();
        mightRefused();
        learnsByTheSizeOfTheSet();
        learnsRefused();
        leastIsOfTheFirstStores();
        leastWithoutAQuestion();
        fitsTakesTheNumbers();
        fitsTakesOneToNine();
        fitsByOneMoreThanTheDegree();
        fitsOfALieMore();
        fitsByNoMoreThanTheDegree();
        fitsTellsFirst();
        bothTakesTheSetsOfTheRecords();
        bothOfNoneAndOfAll();
        bothIsReckonedModulo128();
        bothOfALazyStore();
        bothNeedsNoQuestion();
        pairPutsInAndTakesOut();
        pairTakesTheSetsOfTheRecords();
        pairTakesTheRecordsThereAre();
        pairOfOneStore();
        pairOfALazyStore();
        pairIsReckonedModulo128();
        pairTellsFirst();
        totalTakesZeroToSix();
        totalOfWordsOfAFetch();
        totalOfWordsWithNoneToldByIt();
        totalOfQuestions();
        totalOfTrueStores();
        totalOfTheQuestion();
        Checks.end();
    }

    /** Two, four or eight records, and a question for the last. */
    private static SilentAsking asked(int m, int t) {
        SilentAsking x = new SilentAsking();
        x.records(m);
        x.ask((1 << m) - 1, t, 1234567);
        return x;
    }

    // ---- promise 17

    /** With each store fewer than T one lot of each number of the POINT stays free. */
    private static void waysByTheSizeOfTheSet() {
        for (int m = 1; m <= 3; m++) {
            int wanted = (1 << m) - 1;
            SilentAsking x = asked(m, 1);
            Checks.due("17 T 1, one store", x.ways(2, 0), 1);
            Checks.due("17 T 1, two stores, another record", x.ways(6, 0), 0);
            Checks.due("17 T 1, two stores, the record", x.ways(6, wanted), 1);
            SilentAsking y = asked(m, 2);
            Checks.due("17 T 2, one store", y.ways(2, 0), Checks.power(97, m));
            Checks.due("17 T 2, two stores", y.ways(6, 0), 1);
            Checks.due("17 T 2, three stores, another record", y.ways(14, 0), 0);
            Checks.due("17 T 2, three stores, the record", y.ways(14, wanted), 1);
            Checks.due("17 T 2, all stores, another record", y.ways(1022, 0), 0);
            Checks.due("17 T 2, all stores, the record", y.ways(1022, wanted), 1);
        }
    }

    private static void waysOfEachRecord() {
        SilentAsking x = new SilentAsking();
        x.records(3);
        for (int wanted = 0; wanted < 8; wanted++) {
            x.ask(wanted, 2, MOST - wanted);
            for (int i = 0; i < 8; i++) {
                Checks.due("17 one store", x.ways(512, i), 912673);
                Checks.due("17 two stores", x.ways(514, i), 1);
                Checks.due("17 three stores", x.ways(770, i), i == wanted ? 1 : 0);
            }
        }
    }

    private static void waysTakeTheSetsOfOneToNine() {
        SilentAsking x = asked(1, 2);
        for (int j = 1; j <= 9; j++) {
            Checks.due("17 store " + j + " alone", x.ways(1 << j, 0), 97);
        }
        Checks.due("17 all", x.ways(1022, 1), 1);
        Checks.dueOfEach("17 no set", set -> x.ways(set, 0), BAD, NO_SETS);
    }

    private static void waysTakeTheRecordsThereAre() {
        for (int m = 1; m <= 3; m++) {
            SilentAsking x = asked(m, 1);
            int n = 1 << m;
            Checks.dueOfEach("17 the first and the last", i -> x.ways(512, i), 1, 0, n - 1);
            Checks.dueOfEach("17 no record", i -> x.ways(512, i), UNKNOWN, LEAST, NONE, -1, n, n + 1, 8, MOST);
            Checks.dueOfEach("17 no record, of all stores", i -> x.ways(1022, i), UNKNOWN, -1, n);
        }
    }

    private static void waysTellFirst() {
        SilentAsking x = new SilentAsking();
        Checks.due("17 STATE", x.ways(2, 0), STATE);
        Checks.dueOfEach("17 STATE before BAD", set -> x.ways(set, 0), STATE, NO_SETS);
        Checks.dueOfEach("17 STATE before UNKNOWN", i -> x.ways(2, i), STATE, -1, 2);
        x.ask(0, 1, 0);
        Checks.dueOfEach("17 BAD before UNKNOWN", i -> x.ways(0, i), BAD, -1, 2);
        Checks.dueOfEach("17 BAD before UNKNOWN", i -> x.ways(1024, i), BAD, -1, 2);
    }

    private static void waysAreTheSameWithAnyKindOfStore() {
        SilentAsking x = asked(2, 2);
        for (int kind = 0; kind <= 3; kind++) {
            for (int j = 1; j <= 9; j++) {
                x.store(j, kind, 5);
            }
            x.veil(kind);
            Checks.due("17 one store got its point", x.ways(2, 1), 9409);
            Checks.due("17 three stores got their points", x.ways(14, 1), 0);
            Checks.due("18 three stores got their points", x.might(14), 1);
            Checks.due("19 three stores got their points", x.learns(14), 1);
            Checks.due("20 the least set", x.least(), 14);
        }
    }

    // ---- promises 18 and 19

    private static void mightByTheSizeOfTheSet() {
        for (int m = 1; m <= 3; m++) {
            SilentAsking x = asked(m, 1);
            Checks.due("18 T 1, one store", x.might(2), 1 << m);
            Checks.due("18 T 1, two stores", x.might(6), 1);
            Checks.due("18 T 1, all stores", x.might(1022), 1);
            SilentAsking y = asked(m, 2);
            Checks.due("18 T 2, one store", y.might(512), 1 << m);
            Checks.due("18 T 2, two stores", y.might(768), 1 << m);
            Checks.due("18 T 2, three stores", y.might(896), 1);
            Checks.due("18 T 2, all stores", y.might(1022), 1);
        }
    }

    private static void mightRefused() {
        SilentAsking x = new SilentAsking();
        Checks.due("18 STATE", x.might(2), STATE);
        Checks.dueOfEach("18 STATE before BAD", x::might, STATE, NO_SETS);
        x.ask(0, 1, 0);
        Checks.dueOfEach("18 BAD", x::might, BAD, NO_SETS);
        Checks.dueOfEach("18 the least and the greatest of one store", x::might, 2, 2, 512);
        Checks.due("18 all", x.might(1022), 1);
    }

    private static void learnsByTheSizeOfTheSet() {
        for (int m = 1; m <= 3; m++) {
            for (int t = 1; t <= 2; t++) {
                for (int i = 0; i < 1 << m; i++) {
                    SilentAsking x = new SilentAsking();
                    x.records(m);
                    x.ask(i, t, 99 * i);
                    Checks.dueOfEach("19 one store, T " + t, x::learns, 0, 2, 32, 512);
                    Checks.dueOfEach("19 two stores, T " + t, x::learns, t == 1 ? 1 : 0, 6, 514, 768);
                    Checks.dueOfEach("19 three stores and more", x::learns, 1, 14, 896, 1022);
                }
            }
        }
    }

    private static void learnsRefused() {
        SilentAsking x = new SilentAsking();
        Checks.due("19 STATE", x.learns(2), STATE);
        Checks.dueOfEach("19 STATE before BAD", x::learns, STATE, NO_SETS);
        x.ask(0, 1, 0);
        Checks.dueOfEach("19 BAD", x::learns, BAD, NO_SETS);
    }

    // ---- promise 20

    private static void leastIsOfTheFirstStores() {
        for (int m = 1; m <= 3; m++) {
            for (int t = 1; t <= 2; t++) {
                SilentAsking x = asked(m, t);
                int least = t == 1 ? 6 : 14;
                Checks.due("20 T " + t, x.least(), least);
                Checks.due("20 it learns", x.learns(least), 1);
                for (int set = 2; set < least; set += 2) {
                    Checks.due("20 a lesser one does not", x.learns(set), 0);
                }
            }
        }
    }

    private static void leastWithoutAQuestion() {
        SilentAsking x = new SilentAsking();
        Checks.due("20 STATE", x.least(), STATE);
        x.ask(2, 1, 0);
        Checks.due("20 STATE, the question was refused", x.least(), STATE);
        x.ask(1, 1, 0);
        Checks.due("20 a question", x.least(), 6);
        x.records(1);
        Checks.due("20 STATE again", x.least(), STATE);
    }

    // ---- promise 21

    private static void fitsTakesTheNumbers() {
        SilentAsking x = Checks.with(0, 96);
        x.ask(0, 1, 5);
        Checks.due("21 the least", x.fits(9, 0), 1);
        Checks.due("21 the greatest is another", x.fits(9, 96), 0);
        Checks.dueOfEach("21 no number", v -> x.fits(9, v), BAD, LEAST, NONE, -97, -1, 97, 98, MOST);
        x.ask(1, 1, 5);
        Checks.due("21 the greatest", x.fits(9, 96), 1);
        Checks.due("21 the least is another", x.fits(9, 0), 0);
    }

    private static void fitsTakesOneToNine() {
        SilentAsking x = Checks.with(0, 96);
        x.ask(1, 1, 5);
        Checks.dueOfEach("21 fits", s -> x.fits(s, 96), 1, 2, 3, 8, 9);
        Checks.dueOfEach("21 BAD", s -> x.fits(s, 96), BAD, LEAST, NONE, -1, 0, 10, 11, MOST);
    }

    /** Through D + 1 answers there always goes a curve: it is one number at 0, with a lie another. */
    private static void fitsByOneMoreThanTheDegree() {
        for (int m = 1; m <= 3; m++) {
            for (int t = 1; t <= 2; t++) {
                SilentAsking x = asked(m, t);
                x.put((1 << m) - 1, 50);
                int n = m * t + 1;
                oneFits(x, n, 50);
                x.store(1, LYING, 2);
                oneFits(x, n, (50 + 2 * n) % 97);
                Checks.due("21 nothing is asked", x.total(1) + x.total(2), 0);
            }
        }
    }

    private static void oneFits(SilentAsking x, int s, int only) {
        for (int v = 0; v <= 96; v++) {
            Checks.due("21 fits(" + s + ", " + v + ")", x.fits(s, v), v == only ? 1 : 0);
        }
    }

    private static void fitsOfALieMore() {
        for (int m = 1; m <= 3; m++) {
            for (int t = 1; t <= 2; t++) {
                for (int j = 1; j <= m * t + 2; j++) {
                    SilentAsking x = asked(m, t);
                    x.veil(j);
                    int n = m * t + 2;
                    Checks.due("21 all are true", x.fits(n, 0), 1);
                    x.store(j, LYING, 1);
                    for (int v = 0; v <= 96; v++) {
                        Checks.due("21 store " + j + " lies: fits(" + n + ", " + v + ")", x.fits(n, v), 0);
                    }
                    x.store(j, LAZY, 0);
                    Checks.due("21 it is lazy: D + 1 are left", x.fits(n, 0), 1);
                }
            }
        }
    }

    private static void fitsByNoMoreThanTheDegree() {
        for (int m = 1; m <= 3; m++) {
            for (int t = 1; t <= 2; t++) {
                SilentAsking x = asked(m, t);
                int degree = m * t;
                Checks.due("21 by D", x.fits(degree, 0), STATE);
                Checks.due("21 by one", x.fits(1, 0), STATE);
                Checks.due("21 by D + 1", x.fits(degree + 1, 0), 1);
                x.store(degree + 1, LAZY, 0);
                Checks.due("21 by D + 1, one of them lazy", x.fits(degree + 1, 0), STATE);
                Checks.due("21 by D + 2, one of them lazy", x.fits(degree + 2, 0), 1);
            }
        }
    }

    private static void fitsTellsFirst() {
        SilentAsking x = new SilentAsking();
        Checks.dueOfEach("21 STATE", s -> x.fits(s, 0), STATE, 1, 2, 9);
        Checks.dueOfEach("21 BAD s before STATE", s -> x.fits(s, 0), BAD, LEAST, 0, 10, MOST);
        Checks.dueOfEach("21 BAD v before STATE", v -> x.fits(9, v), BAD, LEAST, -1, 97, MOST);
        x.ask(0, 1, 0);
        Checks.dueOfEach("21 BAD v before too few", v -> x.fits(1, v), BAD, -1, 97);
    }

    // ---- promise 22

    private static void bothTakesTheSetsOfTheRecords() {
        for (int m = 1; m <= 3; m++) {
            SilentAsking x = new SilentAsking();
            x.records(m);
            int sets = 1 << (1 << m);
            Checks.dueOfEach("22 the least and the greatest", set -> x.both(9, set), 0, 0, sets - 1);
            Checks.dueOfEach("22 BAD", set -> x.both(9, set), BAD,
                LEAST, NONE, -1, sets, sets + 1, 256, 65536, MOST);
            Checks.dueOfEach("22 UNKNOWN before BAD", set -> x.both(0, set), UNKNOWN, -1, sets);
            Checks.dueOfEach("22 UNKNOWN before BAD", set -> x.both(10, set), UNKNOWN, -1, sets);
        }
    }

    private static void bothOfNoneAndOfAll() {
        SilentAsking x = Checks.with(1, 2, 4, 8, 16, 32, 64, 96);
        Checks.due("22 of none", x.both(1, 0), 0);
        Checks.due("22 of the first", x.both(1, 1), 1);
        Checks.due("22 of the last", x.both(1, 128), 96);
        Checks.due("22 of all but the last", x.both(1, 127), 127);
        Checks.due("22 of all", x.both(1, 255), 31);
        x.store(1, LYING, 1);
        Checks.due("22 of none, lying", x.both(1, 0), 1);
        x.store(1, LYING, 96);
        Checks.due("22 of none, lying by the most", x.both(1, 0), 96);
    }

    private static void bothIsReckonedModulo128() {
        SilentAsking x = Checks.with(63, 64, 31, 32);
        Checks.due("22 63 and 64, true", x.both(1, 3), 127);
        x.store(1, LYING, 1);
        Checks.due("22 64 and 32, and 1", x.both(1, 10), 97);
        Checks.due("22 127 and 1", x.both(1, 3), 0);
        x.store(1, LYING, 96);
        Checks.due("22 31 and 96", x.both(1, 4), 127);
        Checks.due("22 32 and 96", x.both(1, 8), 0);
        Checks.due("22 127 and 96", x.both(1, 3), 95);
    }

    private static void bothOfALazyStore() {
        SilentAsking x = new SilentAsking();
        x.store(1, LAZY, 0);
        Checks.dueOfEach("22 NONE", set -> x.both(1, set), NONE, 0, 1, 3);
        Checks.dueOfEach("22 BAD before NONE", set -> x.both(1, set), BAD, -1, 4);
    }

    private static void bothNeedsNoQuestion() {
        SilentAsking x = Checks.with(7, 9);
        Checks.due("22 no question", x.both(1, 3), 14);
        Checks.due("23 no question", x.pair(1, 2, 0, 1), 9);
        x.ask(1, 1, 3);
        x.veil(5);
        Checks.due("22 a question, veiled", x.both(1, 3), 14);
        Checks.due("23 a question, veiled", x.pair(1, 2, 0, 1), 9);
        Checks.due("24 no words of a fetch()", x.total(1) + x.total(2), 0);
    }

    // ---- promise 23

    private static void pairPutsInAndTakesOut() {
        SilentAsking x = Checks.with(1, 2, 4, 96);
        x.store(2, STALE, 0);
        x.put(3, 0);
        Checks.due("23 put in, the second has it", x.pair(1, 2, 0, 3), 96);
        Checks.due("23 put in, the second has it not", x.pair(2, 1, 0, 3), 0);
        Checks.due("23 taken out, the first has it not", x.pair(1, 2, 8, 3), 0);
        Checks.due("23 taken out, the first has it", x.pair(2, 1, 8, 3), 96);
    }

    private static void pairTakesTheSetsOfTheRecords() {
        for (int m = 1; m <= 3; m++) {
            SilentAsking x = new SilentAsking();
            x.records(m);
            int n = 1 << m;
            for (int i = 0; i < n; i++) {
                x.put(i, 96 - i);
            }
            for (int i = 0; i < n; i++) {
                Checks.due("23 the least set", x.pair(1, 9, 0, i), 96 - i);
                Checks.due("23 the greatest set", x.pair(9, 1, (1 << n) - 1, i), 96 - i);
            }
            Checks.dueOfEach("23 BAD", set -> x.pair(1, 2, set, 0), BAD,
                LEAST, NONE, -1, 1 << n, (1 << n) + 1, 256, MOST);
        }
    }

    private static void pairTakesTheRecordsThereAre() {
        for (int m = 1; m <= 3; m++) {
            SilentAsking x = new SilentAsking();
            x.records(m);
            int n = 1 << m;
            Checks.dueOfEach("23 the first and the last", i -> x.pair(1, 2, 0, i), 0, 0, n - 1);
            Checks.dueOfEach("23 UNKNOWN", i -> x.pair(1, 2, 0, i), UNKNOWN, LEAST, -1, n, n + 1, 8, 32, MOST);
        }
    }

    private static void pairOfOneStore() {
        SilentAsking x = new SilentAsking();
        Checks.dueOfEach("23 STATE", j -> x.pair(j, j, 0, 0), STATE, 1, 5, 9);
        Checks.dueOfEach("23 UNKNOWN before STATE", j -> x.pair(j, j, 0, 0), UNKNOWN, LEAST, -1, 0, 10, MOST);
        Checks.dueOfEach("23 UNKNOWN before STATE", i -> x.pair(1, 1, 0, i), UNKNOWN, -1, 2);
        Checks.dueOfEach("23 STATE before BAD", set -> x.pair(1, 1, set, 0), STATE, -1, 4);
        x.store(1, LAZY, 0);
        Checks.due("23 STATE before NONE", x.pair(1, 1, 0, 0), STATE);
    }

    private static void pairOfALazyStore() {
        SilentAsking x = new SilentAsking();
        x.store(4, LAZY, 0);
        x.store(5, LAZY, 0);
        Checks.due("23 the first", x.pair(4, 1, 0, 0), NONE);
        Checks.due("23 the second", x.pair(1, 4, 0, 0), NONE);
        Checks.due("23 both", x.pair(4, 5, 0, 0), NONE);
        Checks.dueOfEach("23 BAD before NONE", set -> x.pair(4, 1, set, 0), BAD, -1, 4);
        Checks.dueOfEach("23 UNKNOWN before NONE", i -> x.pair(4, 1, 0, i), UNKNOWN, -1, 2);
        x.store(4, TRUE, 0);
        Checks.due("23 lazy no more", x.pair(1, 4, 0, 0), 0);
    }

    /** Each tells its own more, modulo 128; the exclusive or is taken of what they tell. */
    private static void pairIsReckonedModulo128() {
        SilentAsking x = Checks.with(32, 95);
        x.store(2, LYING, 96);
        Checks.due("23 0 or else 32 and 96", x.pair(1, 2, 0, 0), 0);
        Checks.due("23 0 and 96 or else 32", x.pair(2, 1, 0, 0), 64);
        x.store(1, LYING, 1);
        Checks.due("23 127 and 1 or else 95 and 96", x.pair(1, 2, 3, 0), 63);
        Checks.due("23 1 or else 95 and 96", x.pair(1, 2, 0, 1), 62);
        Checks.due("23 96 or else 95 and 1", x.pair(2, 1, 0, 1), 0);
    }

    private static void pairTellsFirst() {
        SilentAsking x = new SilentAsking();
        Checks.due("23 UNKNOWN a, BAD", x.pair(0, 1, 4, 0), UNKNOWN);
        Checks.due("23 UNKNOWN b, BAD", x.pair(1, 10, -1, 0), UNKNOWN);
        Checks.due("23 UNKNOWN i, BAD", x.pair(1, 2, 4, 2), UNKNOWN);
        Checks.due("23 all of them", x.pair(10, 10, 4, 2), UNKNOWN);
        Checks.due("23 STATE, BAD", x.pair(9, 9, -1, 1), STATE);
    }

    // ---- promise 24

    private static void totalTakesZeroToSix() {
        SilentAsking x = new SilentAsking();
        Checks.due("24 the least", x.total(0), 2);
        Checks.due("24 the greatest", x.total(6), NONE);
        Checks.dueOfEach("24 BAD", x::total, BAD, LEAST, NONE, -1, 7, 8, MOST);
    }

    private static void totalOfWordsOfAFetch() {
        SilentAsking x = asked(3, 1);
        x.store(1, LAZY, 0);
        x.store(5, LAZY, 0);
        Checks.due("14 too few", x.fetch(5), STATE);
        Checks.due("14 BAD", x.fetch(10), BAD);
        Checks.due("24 refused: no words up", x.total(1), 0);
        Checks.due("24 refused: no words down", x.total(2), 0);
        Checks.due("14 the least that are enough", x.fetch(6), 0);
        Checks.due("24 up, for lazy ones too", x.total(1), 18);
        Checks.due("24 down, of those that are not lazy", x.total(2), 4);
        Checks.due("14 all", x.fetch(9), 0);
        Checks.due("24 up so far", x.total(1), 45);
        Checks.due("24 down so far", x.total(2), 11);
        x.answer(2);
        x.mends(9);
        x.fits(9, 0);
        x.both(2, 1);
        x.pair(2, 3, 0, 0);
        Checks.due("24 words of a fetch() alone", x.total(1) + x.total(2), 56);
        x.records(1);
        Checks.due("24 up so far, with new records", x.total(1), 45);
        Checks.due("24 down so far, with new records", x.total(2), 11);
        x.ask(0, 1, 0);
        x.fetch(9);
        Checks.due("24 up, m is 1", x.total(1), 54);
        Checks.due("24 down, m is 1", x.total(2), 20);
    }

    private static void totalOfWordsWithNoneToldByIt() {
        SilentAsking x = asked(2, 1);
        x.store(1, LYING, 1);
        Checks.due("14 NONE", x.fetch(4), NONE);
        Checks.due("24 up", x.total(1), 8);
        Checks.due("24 down", x.total(2), 4);
    }

    private static void totalOfQuestions() {
        SilentAsking x = new SilentAsking();
        for (int asked = 0; asked < 5; asked++) {
            Checks.due("24 questions", x.total(3), asked);
            x.ask(2, 1, 0);
            x.ask(0, 0, 0);
            x.ask(0, 1, -1);
            Checks.due("24 no questions of what was refused", x.total(3), asked);
            x.ask(0, 1, 0);
        }
        x.records(2);
        Checks.due("24 questions, with new records", x.total(3), 5);
    }

    private static void totalOfTrueStores() {
        SilentAsking x = new SilentAsking();
        for (int j = 1; j <= 9; j++) {
            Checks.due("24 true stores", x.total(4), 10 - j);
            x.store(j, 1 + j % 3, 1);
        }
        Checks.due("24 none is true", x.total(4), 0);
        x.store(9, TRUE, 0);
        Checks.due("24 one is true", x.total(4), 1);
    }

    private static void totalOfTheQuestion() {
        SilentAsking x = new SilentAsking();
        Checks.due("24 there is none", x.total(5), 0);
        Checks.due("24 D of none", x.total(6), NONE);
        x.ask(0, 1, 0);
        Checks.due("24 there is one", x.total(5), 1);
        Checks.due("24 the least D", x.total(6), 1);
        x.records(3);
        Checks.due("24 there is none again", x.total(5), 0);
        Checks.due("24 D of none again", x.total(6), NONE);
        x.ask(0, 2, 0);
        Checks.due("24 the greatest D", x.total(6), 6);
    }
}
