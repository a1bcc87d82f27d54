import java.util.Random;

/** Long runs of calls, drawn from fixed seeds, on the class and on the plain writing of the document. */
public final class ModelTest {
    private static final int RUNS = 400, CALLS = 512;
    private static int wrong;
    private static long answers;
    private static final int[] standing = new int[34];

    public static void main(String[] args) {
        for (int seed = 0; seed < RUNS && wrong < 20; seed++) {
            new ModelTest(seed).go();
        }
        for (int seed = 0; seed < 6 && wrong < 20; seed++) {
            wideCut(seed);
        }
        System.out.println(answers + " answers, " + wrong + " unlike the plain house's");
        StringBuilder rare = new StringBuilder();
        for (int call = 1; call < standing.length; call++) {
            if (standing[call] < 200) {
                rare.append(' ').append(call + 1).append(':').append(standing[call]);
            }
        }
        if (rare.length() > 0) {
            System.out.println("promises that were hardly tried:" + rare);
            wrong++;
        }
        if (wrong != 0) {
            System.exit(1);
        }
    }

    private final PartedHouse x = new PartedHouse();
    private final PlainHouse p = new PlainHouse();
    private final Random random;
    private final int seed;
    private final int modules, tables, routines, rooms;
    private final boolean rude;
    private String call = "";

    private ModelTest(int seed) {
        this.seed = seed;
        random = new Random(seed * 7919L + 5);
        modules = seed % 13 == 0 ? 10 : 1 + random.nextInt(7);
        tables = 1 + random.nextInt(seed % 5 == 0 ? 16 : 5);
        routines = 1 + random.nextInt(seed % 7 == 0 ? 40 : 8);
        rooms = 1 + random.nextInt(6);
        rude = seed % 3 == 0;
    }

    private void same(int promise, long got, long want) {
        answers++;
        if (want >= 0 || want > -999999 && promise == 7) {
            standing[promise - 1]++;
        }
        if (got != want) {
            wrong++;
            System.out.println("seed " + seed + ", " + call + ": answered " + got + ", the plain house " + want);
        }
    }

    private int pick(int bound) {
        if (rude && random.nextInt(40) == 0) {
            int[] odd = {-1, bound, bound + 1, Integer.MAX_VALUE, Integer.MIN_VALUE, -2, 100000};
            return odd[random.nextInt(odd.length)];
        }
        return random.nextInt(bound);
    }

    private int number() {
        int kind = random.nextInt(12);
        if (kind == 0) {
            return random.nextInt();
        }
        return kind < 4 ? 0 : random.nextInt(21) - 6;
    }

    private void go() {
        int done = 0;
        for (int m = 0; m < modules; m++, done++) {
            oneCall(2);
        }
        for (int t = 0; t < tables; t++, done++) {
            oneCall(3);
        }
        for (int r = 0; r < routines; r++, done++) {
            oneCall(4);
        }
        for (int i = 0; i < routines * 4 && done < 250; i++, done++) {
            oneCall(5);
        }
        for (; done < CALLS; done++) {
            oneCall(common());
            if (wrong > 0) {
                return;
            }
        }
    }

    private int common() {
        int[] often = {7, 7, 7, 18, 18, 18, 28, 28, 19, 19, 11, 11, 25, 26, 27, 24, 5, 14, 8, 21, 20};
        if (random.nextInt(3) > 0) {
            return often[random.nextInt(often.length)];
        }
        int promise = 2 + random.nextInt(33);
        boolean grows = promise <= 3;
        boolean rare = promise == 6 || promise == 31 || promise == 15;
        return grows && random.nextInt(30) > 0 || rare && random.nextInt(3) > 0 ? 9 : promise;
    }

    private void oneCall(int promise) {
        call = "promise " + promise;
        if (promise <= 6) {
            textCall(promise);
        } else if (promise <= 17) {
            roomCall(promise);
        } else if (promise <= 27) {
            letterCall(promise);
        } else {
            besideCall(promise);
        }
    }

    private void textCall(int promise) {
        int m = pick(modules), r = pick(routines);
        switch (promise) {
            case 2: {
                int size = rude ? random.nextInt(104) - 2 : 1 + random.nextInt(40);
                same(2, x.module(size), p.module(size));
                break;
            }
            case 3:
                same(3, x.table(m), p.table(m));
                break;
            case 4:
                same(4, x.routine(m), p.routine(m));
                break;
            case 5:
                anyLine(r);
                break;
            default:
                same(6, x.clear(r), p.clear(r));
        }
    }

    private void anyLine(int r) {
        int[] ops = {0, 1, 1, 2, 3, 3, 3, 3, 4, 4, 5, 6, 7, 7, 8};
        int op = rude && random.nextInt(30) == 0 ? pick(9) : ops[random.nextInt(ops.length)];
        int a = 0, b = 0;
        if (op == 0 || op == 1) {
            a = random.nextInt(rude ? 2100 : 20) - (rude ? 1050 : 8);
        } else if (op == 4) {
            a = random.nextInt(3) > 0 ? Math.min(routines - 1, r + 1) : pick(routines);
        } else if (op == 5) {
            a = rude ? random.nextInt(18) : 1 + random.nextInt(4);
        } else if (op != 6) {
            a = pick(tables);
            b = random.nextInt(3) > 0 ? random.nextInt(2) : pick(8);
        }
        if (rude && random.nextInt(40) == 0) {
            b = pick(3);
        }
        call = "line(" + r + ", " + op + ", " + a + ", " + b + ")";
        same(5, x.line(r, op, a, b), p.line(r, op, a, b));
    }

    private void roomCall(int promise) {
        int m = pick(modules), n = pick(modules), t = pick(tables), r = pick(routines), a = number();
        int what = pick(3), w = random.nextInt(rude ? 104 : 30) - (rude ? 2 : 0);
        switch (promise) {
            case 7:
                call = "run(" + r + ", " + a + ")";
                same(7, x.run(r, a), p.run(r, a));
                break;
            case 8: {
                int house = pick(2), c = pick(8);
                same(8, x.cell(house, t, c), p.cell(house, t, c));
                break;
            }
            case 9: {
                int b = what == 0 ? n : t;
                same(9, x.counted(what, m, b), p.counted(what, m, b));
                break;
            }
            case 10: {
                int b = what == 0 ? n : t;
                same(10, x.tied(what, m, b), p.tied(what, m, b));
                break;
            }
            case 11: {
                int room = pick(rooms);
                same(11, x.room(m, room), p.room(m, room));
                break;
            }
            case 12: {
                int which = pick(4);
                same(12, x.weight(which, w), p.weight(which, w));
                break;
            }
            case 13: {
                int how = random.nextInt(3) > 0 ? 0 : pick(3);
                same(13, x.tell(m, n, how), p.tell(m, n, how));
                break;
            }
            case 14:
                same(14, x.price(), p.price());
                break;
            case 15:
                anyCut();
                break;
            case 16:
                same(16, x.put(m), p.put(m));
                break;
            default:
                for (int i = -1; i <= 6; i++) {
                    same(17, x.ring(i), p.ring(i));
                }
        }
    }

    private void anyCut() {
        int r = rude ? random.nextInt(8) : 1 + random.nextInt(6), most = 1 + random.nextInt(120);
        if (rude && random.nextInt(10) == 0) {
            most = random.nextBoolean() ? 0 : 10000;
        }
        // The plain house goes through all ways: more than some thousand of them take it too long.
        if (x.count(0) < 10 && Math.pow(r, x.count(0)) > 5000) {
            r = 2;
        }
        call = "cut(" + r + ", " + most + ")";
        same(15, x.cut(r, most), p.cut(r, most));
        for (int m = 0; m < 10; m++) {
            same(16, x.put(m), p.put(m));
        }
    }

    private void letterCall(int promise) {
        int r = pick(routines), a = number(), law = pick(3), letter = pick(Math.max(1, p.count(6)));
        switch (promise) {
            case 18:
                call = "act(" + r + ", " + a + ")";
                same(18, x.act(r, a), p.act(r, a));
                break;
            case 19:
                same(19, x.deliver(letter), p.deliver(letter));
                break;
            case 20:
                if (p.count(7) > 4 || random.nextInt(4) == 0) {
                    same(20, x.settle(), p.settle());
                }
                break;
            case 21:
                for (int what = -1; what <= 6; what++) {
                    same(21, x.letter(letter, what), p.letter(letter, what));
                }
                break;
            case 22:
                same(22, x.law(a), p.law(a));
                break;
            case 23: {
                int t = pick(tables), c = random.nextInt(4) > 0 ? random.nextInt(2) : pick(8);
                int factor = random.nextInt(rude ? 23 : 19) - (rude ? 11 : 9);
                same(23, x.term(law, t, c, factor), p.term(law, t, c, factor));
                break;
            }
            case 24: {
                int house = pick(2);
                same(24, x.holds(law, house), p.holds(law, house));
                break;
            }
            case 25:
                same(25, x.broken(law), p.broken(law));
                break;
            case 26:
                for (int i = -1; i <= 6; i++) {
                    same(26, x.worst(law, i), p.worst(law, i));
                }
                break;
            default:
                same(27, x.orders(), p.orders());
        }
    }

    private void besideCall(int promise) {
        int r = pick(routines), a = number(), i = pick(4);
        switch (promise) {
            case 28:
                call = "beside(" + r + ", " + a + ")";
                same(28, x.beside(r, a), p.beside(r, a));
                break;
            case 29:
                for (int what = -1; what <= 5; what++) {
                    same(29, x.unlike(what), p.unlike(what));
                }
                break;
            case 30:
                same(30, x.differ(), p.differ());
                break;
            case 31:
                same(31, x.sync(), p.sync());
                break;
            case 32:
                same(32, x.image(i), p.image(i));
                break;
            case 33:
                same(33, x.restore(i), p.restore(i));
                break;
            default:
                for (int what = -1; what <= 9; what++) {
                    same(34, x.count(what), p.count(what));
                }
        }
    }

    /** Nine modules in three rooms, eight in four: as many ways as the plain house can still go through. */
    private static void wideCut(int seed) {
        ModelTest test = new ModelTest(1000 + seed);
        Random random = test.random;
        int n = 9 - seed % 2, r = 3 + seed % 2;
        for (int m = 0; m < n; m++) {
            int size = 1 + random.nextInt(20);
            test.same(2, test.x.module(size), test.p.module(size));
            test.same(3, test.x.table(m), test.p.table(m));
            test.same(4, test.x.routine(m), test.p.routine(m));
        }
        for (int i = 0; i < n * 4; i++) {
            int from = random.nextInt(n), to = random.nextInt(n), op = 2 + random.nextInt(2);
            test.same(5, test.x.line(from, op, to, 0), test.p.line(from, op, to, 0));
        }
        for (int i = 0; i < 30; i++) {
            int m = random.nextInt(n);
            test.same(7, test.x.run(m, i), test.p.run(m, i));
        }
        int a = random.nextInt(n), b = (a + 1 + random.nextInt(n - 1)) % n, how = random.nextInt(3);
        test.same(13, test.x.tell(a, b, how), test.p.tell(a, b, how));
        int[] mosts = {40, 60, 90};
        for (int most : mosts) {
            test.call = "wide cut(" + r + ", " + most + ")";
            test.same(15, test.x.cut(r, most), test.p.cut(r, most));
            for (int m = 0; m < n; m++) {
                test.same(16, test.x.put(m), test.p.put(m));
            }
        }
    }
}
