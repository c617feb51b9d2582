/** Each sentence of Term 2 and of promises 9 to 16 that names a boundary case. */
public final class QuestionEdgesTest {
    private static final int UNKNOWN = Checks.UNKNOWN, BAD = Checks.BAD, STATE = Checks.STATE, NONE = Checks.NONE;
    private static final int LEAST = Checks.LEAST, MOST = Checks.MOST;
    private static final int TRUE = 0, LYING = 1, STALE = 2, LAZY = 3;

    /** First lots at their turns: z, and the lot that is z by 256, cut, modulo 97. */
    private static final int[][] TURNS = {
        {0, 0}, {255, 0}, {256, 1}, {96 * 256 + 255, 96}, {97 * 256, 0}, {97 * 256 + 255, 0}, {98 * 256, 1},
        {2147483647, 47}, {2147483647 - 255, 47}, {2147483647 - 256, 46}};

    public static void main(String[] args) {
        askTakesTheRecordsThereAre();
        askTakesOneAndTwo();
        askTakesTheSeeds();
        askTellsTheDegree();
        askComesInsteadOfTheOneBefore();
        askTellsFirstThatThereIsNoRecord();
        lotsAtTheirTurns();
        seedsAtTheTurnOf2147483648();
        lotsAreDrawnInOrder();
        pointsAreReckonedModulo97();
        pointsGoByTheSquareKeptFromTwo();
        veilTakesTheSeedsAndNone();
        veilWithoutAQuestion();
        veilTellsWhetherTheyWere();
        veilAtTheTurnsOfItsLots();
        veilGoesToTheDegree();
        aNewQuestionIsNotVeiled();
        pointKnowsItsStore();
        pointHasAsManyNumbersAsM();
        pointWithoutAQuestion();
        answerOfEachKind();
        answerWithoutAQuestion();
        answerIsReckonedModulo97();
        neededAtItsEdges();
        fetchTakesOneToNine();
        fetchWithoutAQuestion();
        fetchByAsManyAsTheDegree();
        fetchByOneMoreThanTheDegree();
        fetchCountsThoseThatAreNotLazy();
        fetchMendsUpToB();
        fetchOfOneLieTooMany();
        fetchOfOneLieWithoutAnyToMend();
        fetchOfALieAtItsTurn();
        fetchOfStoresThatAllLieAlike();
        fetchOfStaleStores();
        caughtBeforeAnyFetch();
        caughtInTheLatestThatTold();
        caughtOfThoseNotAskedAndLazyOnes();
        mendsOfEachRow();
        mendsCountsThoseThatAreNotLazy();
        mendsRefused();
        Checks.end();
    }

    private static SilentAsking eight() {
        return Checks.with(5, 15, 25, 35, 45, 55, 65, 96);
    }

    /** A question of this degree for the last record, which is 96. */
    private static SilentAsking asked(int m, int t, int seed) {
        SilentAsking x = new SilentAsking();
        x.records(m);
        for (int i = 0; i < 1 << m; i++) {
            x.put(i, 96 - 7 * ((1 << m) - 1 - i));
        }
        x.ask((1 << m) - 1, t, seed);
        return x;
    }

    // ---- promise 9

    private static void askTakesTheRecordsThereAre() {
        SilentAsking x = new SilentAsking();
        for (int m = 1; m <= 3; m++) {
            x.records(m);
            int n = 1 << m;
            int degree = m;
            Checks.dueOfEach("9 the first and the last", i -> x.ask(i, 1, 5), degree, 0, n - 1);
            Checks.dueOfEach("9 no record", i -> x.ask(i, 1, 5), UNKNOWN, LEAST, NONE, -1, n, n + 1, 8, MOST);
        }
    }

    private static void askTakesOneAndTwo() {
        SilentAsking x = new SilentAsking();
        Checks.due("9 the least", x.ask(0, 1, 5), 1);
        Checks.due("9 the greatest", x.ask(0, 2, 5), 2);
        Checks.dueOfEach("9 kept from", t -> x.ask(0, t, 5), BAD, LEAST, -1, 0, 3, 9, MOST);
    }

    private static void askTakesTheSeeds() {
        SilentAsking x = new SilentAsking();
        Checks.dueOfEach("9 seeds", seed -> x.ask(1, 1, seed), 1, 0, 1, MOST - 1, MOST);
        Checks.dueOfEach("9 no seeds", seed -> x.ask(1, 1, seed), BAD, LEAST, LEAST + 1, NONE, -2, -1);
        Checks.due("3 of a refused call there is no question", x.total(3), 4);
    }

    private static void askTellsTheDegree() {
        SilentAsking x = new SilentAsking();
        for (int m = 1; m <= 3; m++) {
            x.records(m);
            for (int t = 1; t <= 2; t++) {
                Checks.due("9 D of m " + m + ", T " + t, x.ask(0, t, 9), m * t);
                Checks.due("24 D of it", x.total(6), m * t);
            }
        }
    }

    private static void askComesInsteadOfTheOneBefore() {
        SilentAsking x = Checks.with(10, 20);
        x.ask(1, 2, 3);
        x.veil(4);
        Checks.due("14 the one before", x.fetch(9), 20);
        x.ask(2, 1, 3);
        x.ask(0, 3, 3);
        x.ask(0, 1, -1);
        Checks.due("14 refused: the one before stays", x.fetch(9), 20);
        Checks.due("24 refused: its D stays", x.total(6), 2);
        Checks.due("9 ask(0, 1, 3)", x.ask(0, 1, 3), 1);
        Checks.due("14 the one that came", x.fetch(9), 10);
        Checks.due("24 its D", x.total(6), 1);
        Checks.due("24 questions", x.total(3), 2);
    }

    private static void askTellsFirstThatThereIsNoRecord() {
        SilentAsking x = new SilentAsking();
        Checks.dueOfEach("9 UNKNOWN before BAD T", t -> x.ask(2, t, 0), UNKNOWN, 0, 3);
        Checks.dueOfEach("9 UNKNOWN before BAD seed", seed -> x.ask(-1, 1, seed), UNKNOWN, -1, LEAST);
    }

    // ---- Term 2: lots

    /** Kept from one, with two records: the point of a store is the bit and the lot times its number. */
    private static void lotsAtTheirTurns() {
        for (int[] turn : TURNS) {
            SilentAsking x = new SilentAsking();
            x.ask(0, 1, Checks.seedBefore(turn[0]));
            SilentAsking y = new SilentAsking();
            y.ask(1, 1, Checks.seedBefore(turn[0]));
            for (int j = 1; j <= 9; j++) {
                Checks.due("11 z " + turn[0] + ", bit 0", x.point(j, 0), turn[1] * j % 97);
                Checks.due("11 z " + turn[0] + ", bit 1", y.point(j, 0), (1 + turn[1] * j) % 97);
            }
        }
    }

    /** 1103515245 times 1, and 12345 more, is below 2147483648; times 2 it is beyond. */
    private static void seedsAtTheTurnOf2147483648() {
        int[][] seeds = {{0, 48}, {1, 71}, {2, 47}, {MOST, 72}};
        for (int[] seed : seeds) {
            SilentAsking x = new SilentAsking();
            x.ask(0, 1, seed[0]);
            Checks.due("11 seed " + seed[0], x.point(1, 0), seed[1]);
        }
    }

    /** After a z of 0 the next z is 12345, and its lot 48. */
    private static void lotsAreDrawnInOrder() {
        int seed = Checks.seedBefore(0);
        SilentAsking x = eight();
        x.ask(0, 1, seed);
        int[] three = Checks.lots(seed, 3);
        Checks.due("the first lot", three[0], 0);
        Checks.due("the second lot", three[1], 48);
        SilentAsking y = eight();
        y.ask(0, 2, seed);
        int[] six = Checks.lots(seed, 6);
        for (int k = 0; k < 3; k++) {
            Checks.due("11 kept from one, number " + k, x.point(1, k), three[k]);
            Checks.due("11 kept from two, number " + k, y.point(1, k), (six[2 * k] + six[2 * k + 1]) % 97);
            Checks.due("11 kept from two, by 3", y.point(3, k), (six[2 * k] * 3 + six[2 * k + 1] * 9) % 97);
        }
    }

    private static void pointsAreReckonedModulo97() {
        SilentAsking x = new SilentAsking();
        int seed = Checks.seedBefore(96 * 256);
        x.ask(0, 1, seed);
        Checks.due("11 96", x.point(1, 0), 96);
        Checks.due("11 192", x.point(2, 0), 95);
        x.ask(1, 1, seed);
        Checks.due("11 1 and 96, which is 97", x.point(1, 0), 0);
        Checks.due("11 1 and 864", x.point(9, 0), 89);
    }

    /** The first lot is 0 and the second 48: 48 j j, and the bit. */
    private static void pointsGoByTheSquareKeptFromTwo() {
        SilentAsking x = new SilentAsking();
        x.ask(0, 2, Checks.seedBefore(0));
        SilentAsking y = new SilentAsking();
        y.ask(1, 2, Checks.seedBefore(0));
        for (int j = 1; j <= 9; j++) {
            Checks.due("11 bit 0, store " + j, x.point(j, 0), 48 * j * j % 97);
            Checks.due("11 bit 1, store " + j, y.point(j, 0), (1 + 48 * j * j) % 97);
        }
    }

    // ---- promise 10

    private static void veilTakesTheSeedsAndNone() {
        SilentAsking x = new SilentAsking();
        x.ask(0, 1, 0);
        Checks.due("10 the least seed", x.veil(0), 0);
        Checks.due("10 the greatest seed", x.veil(MOST), 1);
        Checks.dueOfEach("10 no seed", x::veil, BAD, LEAST, LEAST + 1, -13, -10, -8, -3, -2, -1);
        Checks.due("10 NONE", x.veil(NONE), 1);
        Checks.due("10 NONE again", x.veil(NONE), 0);
    }

    private static void veilWithoutAQuestion() {
        SilentAsking x = new SilentAsking();
        Checks.dueOfEach("10 STATE", x::veil, STATE, NONE, 0, MOST);
        Checks.dueOfEach("10 BAD before STATE", x::veil, BAD, LEAST, -10, -8, -1);
        x.ask(0, 1, 0);
        Checks.due("10 what was refused does not veil", x.veil(NONE), 0);
    }

    private static void veilTellsWhetherTheyWere() {
        SilentAsking x = new SilentAsking();
        x.ask(0, 1, 0);
        int before = 0;
        for (int seed : new int[] {NONE, 5, 6, NONE, NONE, 0, MOST, NONE, 0}) {
            Checks.due("10 veil(" + seed + ")", x.veil(seed), before);
            before = seed == NONE ? 0 : 1;
        }
        x.veil(-1);
        Checks.due("10 refused: they are as they were", x.veil(NONE), 1);
    }

    /** Records of 0, so that an answer is its veil alone. */
    private static void veilAtTheTurnsOfItsLots() {
        SilentAsking x = new SilentAsking();
        x.ask(1, 1, 3);
        for (int[] turn : TURNS) {
            x.veil(Checks.seedBefore(turn[0]));
            for (int j = 1; j <= 9; j++) {
                Checks.due("10 z " + turn[0] + ", store " + j, x.answer(j), turn[1] * j % 97);
            }
        }
        x.veil(NONE);
        Checks.dueOfEach("10 not veiled", x::answer, 0, 1, 2, 9);
    }

    private static void veilGoesToTheDegree() {
        for (int m = 1; m <= 3; m++) {
            for (int t = 1; t <= 2; t++) {
                SilentAsking x = new SilentAsking();
                x.records(m);
                x.ask(0, t, 3);
                x.veil(MOST);
                int[] drawn = Checks.lots(MOST, m * t);
                for (int j = 1; j <= 9; j++) {
                    long due = 0;
                    for (int q = 1; q <= m * t; q++) {
                        due += (long) drawn[q - 1] * Checks.power(j, q);
                    }
                    Checks.due("10 D " + m * t + ", store " + j, x.answer(j), due % 97);
                }
                Checks.due("10 the record is 0 all the same", x.fetch(9), 0);
            }
        }
    }

    private static void aNewQuestionIsNotVeiled() {
        SilentAsking x = new SilentAsking();
        x.ask(0, 1, 0);
        x.veil(3);
        x.ask(0, 1, -1);
        Checks.due("9 refused: it is veiled", x.veil(3), 1);
        x.ask(0, 1, 0);
        Checks.due("9 it is not veiled", x.veil(NONE), 0);
        x.veil(3);
        x.records(1);
        x.ask(0, 1, 0);
        Checks.due("9 it is not veiled, with new records", x.veil(NONE), 0);
    }

    // ---- promises 11 and 12

    private static void pointKnowsItsStore() {
        SilentAsking x = new SilentAsking();
        x.ask(0, 1, Checks.seedBefore(256));
        Checks.due("11 the first", x.point(1, 0), 1);
        Checks.due("11 the last", x.point(9, 0), 9);
        Checks.dueOfEach("11 no store", j -> x.point(j, 0), UNKNOWN, LEAST, -1, 0, 10, MOST);
        Checks.dueOfEach("11 UNKNOWN before BAD", k -> x.point(10, k), UNKNOWN, -1, 1);
    }

    private static void pointHasAsManyNumbersAsM() {
        for (int m = 1; m <= 3; m++) {
            for (int t = 1; t <= 2; t++) {
                SilentAsking x = asked(m, t, 8);
                int[] drawn = Checks.lots(8, m * t);
                Checks.due("11 the first", x.point(1, 0), (1 + drawn[0] + (t == 2 ? drawn[1] : 0)) % 97);
                int last = (m - 1) * t;
                Checks.due("11 the last", x.point(1, m - 1), (1 + drawn[last] + (t == 2 ? drawn[last + 1] : 0)) % 97);
                Checks.dueOfEach("11 no number, m " + m, k -> x.point(1, k), BAD, LEAST, NONE, -1, m, m + 1, 3, MOST);
            }
        }
    }

    private static void pointWithoutAQuestion() {
        SilentAsking x = new SilentAsking();
        Checks.dueOfEach("11 STATE", j -> x.point(j, 0), STATE, 1, 9);
        Checks.dueOfEach("11 STATE before BAD", k -> x.point(1, k), STATE, LEAST, -1, 1, 3);
        Checks.dueOfEach("11 UNKNOWN before STATE", j -> x.point(j, 0), UNKNOWN, 0, 10);
    }

    private static void answerOfEachKind() {
        SilentAsking x = Checks.with(10, 30);
        x.store(2, LYING, 1);
        x.store(3, STALE, 0);
        x.store(9, LAZY, 0);
        x.put(1, 31);
        x.ask(1, 1, Checks.seedBefore(0));
        Checks.due("12 the first, true", x.answer(1), 31);
        Checks.due("12 lying", x.answer(2), 32);
        Checks.due("12 stale", x.answer(3), 30);
        Checks.due("12 the last, lazy", x.answer(9), NONE);
        x.store(9, LYING, 96);
        Checks.due("12 the last, lying", x.answer(9), 30);
        Checks.dueOfEach("12 no store", x::answer, UNKNOWN, LEAST, NONE, -1, 0, 10, MOST);
    }

    private static void answerWithoutAQuestion() {
        SilentAsking x = new SilentAsking();
        x.store(9, LAZY, 0);
        Checks.dueOfEach("12 STATE, of a lazy one too", x::answer, STATE, 1, 9);
        Checks.dueOfEach("12 UNKNOWN before STATE", x::answer, UNKNOWN, LEAST, 0, 10, MOST);
    }

    /** The lot of the question is 0, so that an answer is the record, the veil and the lie. */
    private static void answerIsReckonedModulo97() {
        SilentAsking x = Checks.with(0, 96);
        x.ask(1, 1, Checks.seedBefore(0));
        Checks.due("12 96", x.answer(1), 96);
        x.veil(Checks.seedBefore(256));
        Checks.due("12 96 and 1", x.answer(1), 0);
        Checks.due("12 96 and 2", x.answer(2), 1);
        x.store(1, LYING, 96);
        Checks.due("12 96, 1 and 96", x.answer(1), 96);
        x.veil(Checks.seedBefore(96 * 256));
        Checks.due("12 96, 96 and 96", x.answer(1), 94);
        x.put(1, 0);
        x.store(1, LYING, 1);
        Checks.due("12 0, 96 and 1", x.answer(1), 0);
    }

    // ---- promise 13

    private static void neededAtItsEdges() {
        SilentAsking x = new SilentAsking();
        Checks.due("13 the least", x.needed(1, 1, 0), 2);
        Checks.due("13 the greatest", x.needed(3, 2, 4), 15);
        Checks.due("13 m 3", x.needed(3, 1, 0), 4);
        Checks.due("13 T 2", x.needed(1, 2, 0), 3);
        Checks.due("13 4 lies", x.needed(1, 1, 4), 10);
        Checks.dueOfEach("13 m", m -> x.needed(m, 1, 0), BAD, LEAST, -1, 0, 4, MOST);
        Checks.dueOfEach("13 T", t -> x.needed(1, t, 0), BAD, LEAST, -1, 0, 3, MOST);
        Checks.dueOfEach("13 lies", lies -> x.needed(1, 1, lies), BAD, LEAST, NONE, -1, 5, MOST);
    }

    // ---- promise 14

    private static void fetchTakesOneToNine() {
        SilentAsking x = asked(1, 1, 4);
        Checks.due("14 the least is too few", x.fetch(1), STATE);
        Checks.due("14 the greatest", x.fetch(9), 96);
        Checks.dueOfEach("14 BAD", x::fetch, BAD, LEAST, NONE, -1, 0, 10, 11, MOST);
    }

    private static void fetchWithoutAQuestion() {
        SilentAsking x = new SilentAsking();
        Checks.dueOfEach("14 STATE", x::fetch, STATE, 1, 2, 9);
        Checks.dueOfEach("14 BAD before STATE", x::fetch, BAD, LEAST, 0, 10, MOST);
        Checks.due("24 no words of what was refused", x.total(1) + x.total(2), 0);
    }

    private static void fetchByAsManyAsTheDegree() {
        for (int m = 1; m <= 3; m++) {
            for (int t = 1; t <= 2; t++) {
                SilentAsking x = asked(m, t, 40 + m);
                for (int s = 1; s <= m * t; s++) {
                    Checks.due("14 D " + m * t + ", fetch(" + s + ")", x.fetch(s), STATE);
                }
                Checks.due("24 no words of what was refused", x.total(1) + x.total(2), 0);
            }
        }
    }

    private static void fetchByOneMoreThanTheDegree() {
        for (int m = 1; m <= 3; m++) {
            for (int t = 1; t <= 2; t++) {
                SilentAsking x = asked(m, t, MOST - m);
                for (int s = m * t + 1; s <= 9; s++) {
                    Checks.due("14 D " + m * t + ", fetch(" + s + ")", x.fetch(s), 96);
                }
                x.put((1 << m) - 1, 0);
                Checks.due("14 the least number", x.fetch(m * t + 1), 0);
            }
        }
    }

    private static void fetchCountsThoseThatAreNotLazy() {
        for (int m = 1; m <= 3; m++) {
            for (int t = 1; t <= 2; t++) {
                int degree = m * t;
                SilentAsking x = asked(m, t, 77);
                for (int lazy = 1; lazy <= 9 - degree; lazy++) {
                    Checks.due("14 one more than D is left", x.fetch(9), 96);
                    x.store(lazy, LAZY, 0);
                }
                Checks.due("14 D are left", x.fetch(9), STATE);
                x.store(1, TRUE, 0);
                Checks.due("14 one more again", x.fetch(9), 96);
            }
        }
        SilentAsking none = asked(1, 1, 5);
        for (int j = 1; j <= 9; j++) {
            none.store(j, LAZY, 0);
        }
        Checks.due("14 all are lazy", none.fetch(9), STATE);
    }

    /** The first stores lie, and then the last ones, each by another number. */
    private static void fetchMendsUpToB() {
        for (int m = 1; m <= 3; m++) {
            for (int t = 1; t <= 2; t++) {
                for (int s = m * t + 1; s <= 9; s++) {
                    int b = (s - m * t - 1) / 2;
                    mendsLies(asked(m, t, 1000 + s), s, 1, b);
                    mendsLies(asked(m, t, 2000 + s), s, s - b + 1, b);
                }
            }
        }
    }

    private static void mendsLies(SilentAsking x, int s, int first, int lies) {
        for (int q = 0; q < lies; q++) {
            x.store(first + q, LYING, 96 - 10 * q);
        }
        Checks.due("14 " + lies + " lies of " + s, x.fetch(s), 96);
        for (int j = 1; j <= 9; j++) {
            Checks.due("15 caught(" + j + ")", x.caught(j), j >= first && j < first + lies ? 1 : 0);
        }
    }

    /**
     * Where N - D - 1 is odd and one lie more is told than b, no other curve has N - b answers on it:
     * D true ones and all b + 1 lies are still too few.
     */
    private static void fetchOfOneLieTooMany() {
        for (int m = 1; m <= 3; m++) {
            for (int t = 1; t <= 2; t++) {
                for (int s = m * t + 2; s <= 9; s += 2) {
                    SilentAsking x = asked(m, t, 3000 + s);
                    int b = (s - m * t - 1) / 2;
                    for (int q = 0; q <= b; q++) {
                        x.store(s - q, LYING, 1 + 5 * q);
                    }
                    Checks.due("14 " + (b + 1) + " lies of " + s, x.fetch(s), NONE);
                    Checks.due("24 words down", x.total(2), s);
                    x.store(s, TRUE, 0);
                    Checks.due("14 one lie less", x.fetch(s), 96);
                }
            }
        }
    }

    /** Of D + 1 answers one that is d more makes the number at 0 more by d times a number of choices. */
    private static void fetchOfOneLieWithoutAnyToMend() {
        for (int m = 1; m <= 3; m++) {
            for (int t = 1; t <= 2; t++) {
                int n = m * t + 1;
                for (int j = 1; j <= n; j++) {
                    SilentAsking x = asked(m, t, 4000 + j);
                    x.store(j, LYING, 1);
                    int off = j % 2 == 1 ? Checks.choices(n, j) : -Checks.choices(n, j);
                    Checks.due("14 store " + j + " of " + n + " lies", x.fetch(n), Math.floorMod(96 + off, 97));
                    Checks.due("15 none is caught", x.caught(j), 0);
                }
            }
        }
    }

    private static void fetchOfALieAtItsTurn() {
        SilentAsking x = asked(1, 1, 6);
        for (int d : new int[] {1, 48, 49, 96}) {
            x.store(4, LYING, d);
            Checks.due("14 a lie by " + d, x.fetch(4), 96);
            Checks.due("15 it is caught", x.caught(4), 1);
        }
    }

    private static void fetchOfStoresThatAllLieAlike() {
        SilentAsking x = asked(2, 2, 6);
        for (int j = 1; j <= 9; j++) {
            x.store(j, LYING, 96);
        }
        Checks.due("14 96 and 96", x.fetch(9), 95);
        x.store(5, TRUE, 0);
        x.store(9, LYING, 95);
        Checks.due("14 two tell otherwise", x.fetch(9), 95);
        Checks.due("15 the true one", x.caught(5), 1);
        Checks.due("15 the other liar", x.caught(9), 1);
        Checks.due("15 those on the curve", x.caught(1) + x.caught(4) + x.caught(8), 0);
    }

    private static void fetchOfStaleStores() {
        SilentAsking x = Checks.with(10, 30);
        x.store(2, STALE, 0);
        x.ask(1, 1, Checks.seedBefore(0));
        Checks.due("14 nothing was put yet", x.fetch(4), 30);
        Checks.due("15 it lags, but tells the same", x.caught(2), 0);
        x.put(0, 11);
        Checks.due("14 a record was put that does not count there", x.fetch(4), 30);
        Checks.due("15 it tells the same", x.caught(2), 0);
        x.put(1, 31);
        Checks.due("14 it lags", x.fetch(4), 31);
        Checks.due("15 it tells another number", x.caught(2), 1);
    }

    // ---- promise 15

    private static void caughtBeforeAnyFetch() {
        SilentAsking x = Checks.with(1, 2);
        x.store(1, LYING, 5);
        Checks.dueOfEach("15 no fetch", x::caught, 0, 1, 2, 9);
        x.fetch(9);
        x.ask(1, 1, 3);
        x.fetch(0);
        x.fetch(1);
        Checks.dueOfEach("15 refused ones", x::caught, 0, 1, 2, 9);
        Checks.due("14 fetch(3)", x.fetch(3), NONE);
        Checks.dueOfEach("15 one that told none", x::caught, 0, 1, 2, 9);
        Checks.dueOfEach("15 no store", x::caught, UNKNOWN, LEAST, NONE, -1, 0, 10, MOST);
    }

    private static void caughtInTheLatestThatTold() {
        SilentAsking x = asked(1, 1, 3);
        x.store(1, LYING, 5);
        x.store(9, LYING, 5);
        x.fetch(9);
        Checks.dueOfEach("15 the first and the last", x::caught, 1, 1, 9);
        Checks.dueOfEach("15 no others", x::caught, 0, 2, 3, 4, 5, 6, 7, 8);
        x.fetch(1);
        x.fetch(10);
        Checks.dueOfEach("15 refused: as before", x::caught, 1, 1, 9);
        x.fetch(3);
        Checks.dueOfEach("15 NONE: as before", x::caught, 1, 1, 9);
        x.mends(9);
        x.fits(9, 96);
        x.veil(3);
        x.ask(0, 2, 5);
        Checks.dueOfEach("15 what is no fetch: as before", x::caught, 1, 1, 9);
        x.store(1, TRUE, 0);
        x.store(9, TRUE, 0);
        Checks.dueOfEach("15 it was caught then", x::caught, 1, 1, 9);
        x.fetch(3);
        Checks.dueOfEach("15 all are true", x::caught, 0, 1, 9);
    }

    private static void caughtOfThoseNotAskedAndLazyOnes() {
        SilentAsking x = asked(1, 1, 3);
        x.store(1, LAZY, 0);
        x.store(2, LYING, 1);
        x.store(7, LYING, 1);
        Checks.due("14 fetch(6)", x.fetch(6), 96);
        Checks.due("15 a lazy one", x.caught(1), 0);
        Checks.due("15 a lying one", x.caught(2), 1);
        Checks.due("15 a lying one that was not asked", x.caught(7), 0);
        Checks.due("14 fetch(7)", x.fetch(7), 96);
        Checks.due("15 it was asked", x.caught(7), 1);
    }

    // ---- promise 16

    private static void mendsOfEachRow() {
        for (int m = 1; m <= 3; m++) {
            for (int t = 1; t <= 2; t++) {
                SilentAsking x = asked(m, t, 3);
                for (int s = 1; s <= 9; s++) {
                    int due = s <= m * t ? STATE : (s - m * t - 1) / 2;
                    Checks.due("16 D " + m * t + ", mends(" + s + ")", x.mends(s), due);
                }
                Checks.due("24 it asks nothing", x.total(1) + x.total(2), 0);
            }
        }
    }

    private static void mendsCountsThoseThatAreNotLazy() {
        SilentAsking x = asked(1, 1, 3);
        int[] due = {3, 3, 2, 2, 1, 1, 0, 0, STATE, STATE};
        for (int lazy = 0; lazy <= 9; lazy++) {
            Checks.due("16 " + lazy + " are lazy", x.mends(9), due[lazy]);
            if (lazy < 9) {
                x.store(lazy + 1, LAZY, 0);
            }
        }
    }

    private static void mendsRefused() {
        SilentAsking x = new SilentAsking();
        Checks.dueOfEach("16 STATE", x::mends, STATE, 1, 2, 9);
        Checks.dueOfEach("16 BAD before STATE", x::mends, BAD, LEAST, NONE, -1, 0, 10, MOST);
        x.ask(0, 2, 3);
        Checks.dueOfEach("16 N is D or less", x::mends, STATE, 1, 2);
        Checks.dueOfEach("16 BAD", x::mends, BAD, LEAST, -1, 0, 10, MOST);
    }
}
