import java.util.function.IntToLongFunction;

/** Counts the answers that are not the ones due, and ends a test with exit code 1 if there was one. */
final class Check {
    static final int BAD = -1, NOT = -2, FULL = -3, BIG = -4, FAILED = -2000000000;
    static final int SET = 0, ADD = 1, READ = 2, WRITE = 3, CALL = 4, SKIP = 5, FAIL = 6, MORE = 7, LESS = 8;
    static final int LEAST = Integer.MIN_VALUE, GREATEST = Integer.MAX_VALUE;

    private int wrong;
    private int seen;
    private String words = "";

    /** The document's words that the answers from here on are held to. */
    void sentence(String sentence) {
        words = "[" + sentence + "] ";
    }

    void due(String call, long got, long want) {
        seen++;
        if (got != want) {
            wrong++;
            System.out.println(words + call + " answered " + got + ", due is " + want);
        }
    }

    /** One call with each of these numbers, all with the same answer due. */
    void each(String call, long want, IntToLongFunction answer, int... numbers) {
        for (int number : numbers) {
            due(call + " with " + number, answer.applyAsLong(number), want);
        }
    }

    /** Consecutive numbers from 0 on, each with its own answer due. */
    void row(String call, IntToLongFunction answer, long... wants) {
        for (int i = 0; i < wants.length; i++) {
            due(call + " with " + i, answer.applyAsLong(i), wants[i]);
        }
    }

    void end() {
        System.out.println(seen + " answers, " + wrong + " not as due");
        if (wrong != 0) {
            System.exit(1);
        }
    }

    /** Numbers past both ends; the great powers of two are such that times 2, 8, 16 or 32 they wrap around to 0. */
    static int[] outside(int least, int most) {
        return new int[] {least - 1, most + 1, least - 1000, most + 1000, 1 << 27, 1 << 28, 1 << 29, 1 << 30,
            LEAST, LEAST + 1, GREATEST};
    }

    /** Modules of size 1, each with one table and one routine of its number. */
    static PartedHouse house(int modules) {
        PartedHouse x = new PartedHouse();
        for (int m = 0; m < modules; m++) {
            x.module(1);
            x.table(m);
            x.routine(m);
        }
        return x;
    }

    static void lines(PartedHouse x, int routine, int... numbers) {
        for (int i = 0; i + 2 < numbers.length; i += 3) {
            int answer = x.line(routine, numbers[i], numbers[i + 1], numbers[i + 2]);
            if (answer < 0) {
                throw new IllegalStateException("a test's own line was refused: " + answer);
            }
        }
    }

    /** The same line several times. */
    static void repeat(PartedHouse x, int routine, int times, int op, int first, int second) {
        for (int i = 0; i < times; i++) {
            lines(x, routine, op, first, second);
        }
    }
}
