/** What the tests of the edges share. */
final class Checks {
    static final int UNKNOWN = -1, BAD = -2, STATE = -3, NONE = -9, CAST = -13;
    static final int LEAST = Integer.MIN_VALUE, MOST = Integer.MAX_VALUE;

    private static int wrong = 0;

    private Checks() {
    }

    /** A call on an object. */
    interface Call {
        long of(SilentAsking x);
    }

    /** A call with one argument. */
    interface CallWith {
        long of(int argument);
    }

    static void due(String call, long got, long want) {
        if (got != want) {
            wrong++;
            System.out.println(call + " answered " + got + ", due is " + want);
        }
    }

    /** The same answer is due for each of these arguments. */
    static void dueOfEach(String call, CallWith asked, long want, int... arguments) {
        for (int argument : arguments) {
            due(call + " of " + argument, asked.of(argument), want);
        }
    }

    static void end() {
        System.out.println(wrong == 0 ? "all answers are as due" : wrong + " answers are not as due");
        if (wrong != 0) {
            System.exit(1);
        }
    }

    /** An object with these numbers as its records. */
    static SilentAsking with(int... numbers) {
        SilentAsking x = new SilentAsking();
        x.records(Integer.numberOfTrailingZeros(numbers.length));
        for (int i = 0; i < numbers.length; i++) {
            x.put(i, numbers[i]);
        }
        return x;
    }

    /** The seed whose first z is this one: the drawing of lots, gone backward. */
    static int seedBefore(int z) {
        int inverse = 1103515245;
        for (int q = 0; q < 5; q++) {
            inverse *= 2 - 1103515245 * inverse;
        }
        int seed = (z - 12345) * inverse & MOST;
        if (nextOf(seed) != z) {
            throw new IllegalStateException("the seed is not the one before");
        }
        return seed;
    }

    private static int nextOf(int z) {
        return (int) ((1103515245L * z + 12345L) % 2147483648L);
    }

    static int[] lots(int seed, int many) {
        int[] drawn = new int[many];
        int z = seed;
        for (int q = 0; q < many; q++) {
            z = nextOf(z);
            drawn[q] = z / 256 % 97;
        }
        return drawn;
    }

    /** In how many ways some can be taken of so many. */
    static int choices(int of, int some) {
        int found = 1;
        for (int q = 1; q <= some; q++) {
            found = found * (of - q + 1) / q;
        }
        return found;
    }

    static int power(int base, int to) {
        int value = 1;
        for (int q = 0; q < to; q++) {
            value *= base;
        }
        return value;
    }
}
