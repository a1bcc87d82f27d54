/** Counts the answers that are not the ones due, and ends a test with exit code 1 if there was one. */
final class Check {
    static final int BAD = -1, NOT = -2, FULL = -3, BIG = -4, FAILED = -2000000000;
    static final int SET = 0, ADD = 1, READ = 2, WRITE = 3, CALL = 4, SKIP = 5, FAIL = 6, MORE = 7, LESS = 8;

    private int wrong;
    private int seen;

    void due(String call, long got, long want) {
        seen++;
        if (got != want) {
            wrong++;
            System.out.println(call + " answered " + got + ", due is " + want);
        }
    }

    void end() {
        System.out.println(seen + " answers, " + wrong + " not as due");
        if (wrong != 0) {
            System.exit(1);
        }
    }

    /** Modules of size 1, each with one table and one routine of its number. */
    static PartedHouse house(int modules) {
        PartedHouse x = new PartedHouse();
        for (int m = 0; m < modules; m++) {
            x.module(1);
            x.table(m);
            x.routine(m);
        }
        return x;
    }

    static void lines(PartedHouse x, int routine, int... numbers) {
        for (int i = 0; i + 2 < numbers.length; i += 3) {
            int answer = x.line(routine, numbers[i], numbers[i + 1], numbers[i + 2]);
            if (answer < 0) {
                throw new IllegalStateException("a test's own line was refused: " + answer);
            }
        }
    }
}
