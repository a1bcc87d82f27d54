/** Promises 1 to 6 and 10: a new object, the text, and the ties read off it. */
public final class TextTest {
    private static final Check check = new Check();

    public static void main(String[] args) {
        newObject();
        modules();
        tables();
        routines();
        lineNumbers();
        lineRows();
        clearing();
        textTies();
        check.end();
    }

    private static void newObject() {
        PartedHouse x = new PartedHouse();
        for (int what = 0; what <= 8; what++) {
            check.due("new count(" + what + ")", x.count(what), 0);
        }
        check.due("count(9)", x.count(9), Check.BAD);
        check.due("count(-1)", x.count(-1), Check.BAD);
        check.due("new price()", x.price(), 0);
        check.due("new put(0)", x.put(0), Check.BAD);
        check.due("new cut(6, 9999)", x.cut(6, 9999), 0);
        check.due("put(0) without modules", x.put(0), Check.BAD);
        check.due("new ring(0)", x.ring(0), Check.BAD);
        check.due("new settle()", x.settle(), 0);
        check.due("new orders()", x.orders(), 1);
        check.due("new unlike(0)", x.unlike(0), Check.NOT);
        check.due("new differ()", x.differ(), 0);
        check.due("new sync()", x.sync(), 0);
        check.due("new deliver(0)", x.deliver(0), Check.BAD);
        check.due("new letter(0, 0)", x.letter(0, 0), Check.FAILED);
        check.due("new cell(0, 0, 0)", x.cell(0, 0, 0), Check.FAILED);
        check.due("new run(0, 0)", x.run(0, 0), Check.BAD);
        check.due("new act(0, 0)", x.act(0, 0), Check.BAD);
        check.due("new beside(0, 0)", x.beside(0, 0), Check.BAD);
        check.due("new restore(0)", x.restore(0), Check.NOT);
        check.due("new broken(0)", x.broken(0), Check.BAD);
        check.due("new worst(0, 0)", x.worst(0, 0), Check.BAD);
        check.due("new holds(0, 0)", x.holds(0, 0), Check.BAD);
    }

    private static void modules() {
        PartedHouse x = new PartedHouse();
        check.due("module(0)", x.module(0), Check.BAD);
        check.due("module(-1)", x.module(-1), Check.BAD);
        check.due("module(100)", x.module(100), Check.BAD);
        for (int m = 0; m < 10; m++) {
            check.due("module " + m, x.module(m == 0 ? 1 : 99), m);
        }
        check.due("module past 9", x.module(5), Check.FULL);
        check.due("bad module past 9", x.module(0), Check.BAD);
        check.due("count(0)", x.count(0), 10);
    }

    private static void tables() {
        PartedHouse x = new PartedHouse();
        check.due("table(0) without modules", x.table(0), Check.BAD);
        x.module(1);
        check.due("table(1)", x.table(1), Check.BAD);
        check.due("table(-1)", x.table(-1), Check.BAD);
        for (int t = 0; t < 16; t++) {
            check.due("table " + t, x.table(0), t);
        }
        check.due("table past 15", x.table(0), Check.FULL);
        check.due("bad table past 15", x.table(1), Check.BAD);
        check.due("count(1)", x.count(1), 16);
    }

    private static void routines() {
        PartedHouse x = new PartedHouse();
        check.due("routine(0) without modules", x.routine(0), Check.BAD);
        x.module(1);
        check.due("routine(-1)", x.routine(-1), Check.BAD);
        for (int r = 0; r < 40; r++) {
            check.due("routine " + r, x.routine(0), r);
        }
        check.due("routine past 39", x.routine(0), Check.FULL);
        check.due("bad routine past 39", x.routine(1), Check.BAD);
        check.due("count(2)", x.count(2), 40);
        check.due("run of no lines", x.run(39, 17), 17);
    }

    private static void lineNumbers() {
        PartedHouse x = Check.house(2);
        int[][] good = {
            {0, 999, 0}, {0, -999, 0}, {1, 999, 0}, {1, -999, 0}, {2, 0, 0}, {2, 1, 7}, {3, 1, 7}, {4, 1, 0},
            {5, 1, 0}, {5, 15, 0}, {6, 0, 0}, {7, 1, 7}, {8, 1, 7}, {8, 0, 0}
        };
        for (int i = 0; i < good.length; i++) {
            check.due("good line " + i, x.line(0, good[i][0], good[i][1], good[i][2]), i);
        }
        int[][] bad = {
            {-1, 0, 0}, {9, 0, 0}, {0, 1000, 0}, {0, -1000, 0}, {0, 0, 1}, {1, 1000, 0}, {1, -1000, 0}, {1, 1, -1},
            {2, 2, 0}, {2, -1, 0}, {2, 0, 8}, {2, 0, -1}, {3, 2, 0}, {3, 0, 8}, {3, -1, 0}, {4, 2, 0}, {4, -1, 0},
            {4, 0, 1}, {5, 0, 0}, {5, 16, 0}, {5, 1, 1}, {5, -1, 0}, {6, 1, 0}, {6, 0, 1}, {7, 2, 0}, {7, 0, 8},
            {8, 2, 0}, {8, 0, -1}, {8, Integer.MAX_VALUE, 0}, {Integer.MIN_VALUE, 0, 0}
        };
        for (int i = 0; i < bad.length; i++) {
            check.due("bad line " + i, x.line(1, bad[i][0], bad[i][1], bad[i][2]), Check.BAD);
        }
        check.due("line of no routine", x.line(2, 0, 0, 0), Check.BAD);
        check.due("line of routine -1", x.line(-1, 0, 0, 0), Check.BAD);
        check.due("what was refused is no line", x.clear(1), 0);
    }

    private static void lineRows() {
        PartedHouse x = Check.house(2);
        for (int i = 0; i < 16; i++) {
            check.due("line " + i, x.line(0, Check.ADD, 1, 0), i);
        }
        check.due("line past 15", x.line(0, Check.ADD, 1, 0), Check.FULL);
        check.due("bad line past 15", x.line(0, Check.ADD, 1, 1), Check.BAD);
        check.due("the next routine is empty", x.line(1, Check.ADD, 1, 0), 0);
        check.due("run of 16", x.run(0, 0), 16);
    }

    private static void clearing() {
        PartedHouse x = Check.house(1);
        check.due("clear(-1)", x.clear(-1), Check.BAD);
        check.due("clear(1)", x.clear(1), Check.BAD);
        check.due("clear of none", x.clear(0), 0);
        Check.lines(x, 0, Check.SET, 5, 0, Check.WRITE, 0, 0);
        check.due("run(0, 1)", x.run(0, 1), 5);
        check.due("clear(0)", x.clear(0), 2);
        check.due("run without lines", x.run(0, 1), 1);
        check.due("counts stay", x.counted(2, 0, 0), 1);
        check.due("the text tie goes", x.tied(2, 0, 0), 0);
        check.due("line is 0 again", x.line(0, Check.ADD, 1, 0), 0);
    }

    private static void textTies() {
        PartedHouse x = Check.house(3);
        Check.lines(x, 0, Check.CALL, 1, 0, Check.READ, 1, 0, Check.MORE, 2, 0, Check.WRITE, 0, 3);
        Check.lines(x, 1, Check.LESS, 0, 0, Check.CALL, 1, 0, Check.WRITE, 2, 0, Check.WRITE, 2, 1);
        check.due("tied(0, 0, 1)", x.tied(0, 0, 1), 1);
        check.due("tied(0, 1, 0)", x.tied(0, 1, 0), 0);
        check.due("tied(0, 1, 1)", x.tied(0, 1, 1), 1);
        check.due("tied(1, 0, 0)", x.tied(1, 0, 0), 0);
        check.due("tied(1, 0, 1)", x.tied(1, 0, 1), 1);
        check.due("tied(1, 0, 2)", x.tied(1, 0, 2), 1);
        check.due("tied(1, 1, 0)", x.tied(1, 1, 0), 1);
        check.due("tied(2, 0, 0)", x.tied(2, 0, 0), 1);
        check.due("tied(2, 1, 2)", x.tied(2, 1, 2), 1);
        check.due("tied(2, 2, 1)", x.tied(2, 2, 1), 0);
        check.due("tied(-1, 0, 0)", x.tied(-1, 0, 0), Check.BAD);
        check.due("tied(3, 0, 0)", x.tied(3, 0, 0), Check.BAD);
        check.due("tied(0, 3, 0)", x.tied(0, 3, 0), Check.BAD);
        check.due("tied(0, 0, 3)", x.tied(0, 0, 3), Check.BAD);
        check.due("tied(1, 0, 3)", x.tied(1, 0, 3), Check.BAD);
        check.due("tied(2, 0, -1)", x.tied(2, 0, -1), Check.BAD);
        x.table(0);
        check.due("a table without a module of its number", x.tied(1, 0, 3), 0);
        check.due("a module of that number is none", x.tied(0, 0, 3), Check.BAD);
        x.routine(1);
        Check.lines(x, 3, Check.WRITE, 2, 5);
        check.due("clear(1)", x.clear(1), 4);
        check.due("another routine of the module still ties", x.tied(2, 1, 2), 1);
        check.due("clear(3)", x.clear(3), 1);
        check.due("now none does", x.tied(2, 1, 2), 0);
        check.due("calls of runs are no text ties", x.counted(0, 0, 1), 0);
    }
}
