/** The sentences on the text that name a boundary case: promises 1 to 6 and 10, each with a test of its own. */
public final class TextEdgesTest {
    private static final Check check = new Check();

    public static void main(String[] args) {
        nothingAtFirst();
        tenModules();
        sizes();
        sixteenTables();
        homes();
        eightCells();
        cellsAtFirst();
        cellsAreInts();
        fortyRoutines();
        modulesOfRoutines();
        withoutLines();
        sixteenLines();
        linesOfNoRoutine();
        nineOps();
        numbersOfSet();
        numbersOfAdd();
        placesOfRead();
        placesOfWrite();
        routinesOfCall();
        numbersOfSkip();
        placesOfMore();
        placesOfLess();
        numbersAnOpDoesNotHave();
        clearing();
        clearOfNone();
        callTies();
        readTies();
        writeTies();
        tiesOfTheTextAlone();
        tiesOfNone();
        check.end();
    }

    private static void nothingAtFirst() {
        check.sentence("No modules, tables, routines, laws; SYNCED.");
        PartedHouse x = new PartedHouse();
        check.row("count", x::count, 0, 0, 0, 0, 0, 0, 0, 0, 0);
        check.due("table(0)", x.table(0), Check.BAD);
        check.due("routine(0)", x.routine(0), Check.BAD);
        check.due("line(0, 0, 0, 0)", x.line(0, Check.SET, 0, 0), Check.BAD);
        check.due("clear(0)", x.clear(0), Check.BAD);
        check.due("run(0, 0)", x.run(0, 0), Check.BAD);
        check.due("cell(0, 0, 0)", x.cell(0, 0, 0), Check.FAILED);
        check.due("cell(1, 0, 0)", x.cell(1, 0, 0), Check.FAILED);
        check.each("counted(what, 0, 0)", Check.BAD, what -> x.counted(what, 0, 0), 0, 1, 2);
        check.each("tied(what, 0, 0)", Check.BAD, what -> x.tied(what, 0, 0), 0, 1, 2);
        check.due("room(0, 0)", x.room(0, 0), Check.BAD);
        check.due("tell(0, 1, 1)", x.tell(0, 1, 1), Check.BAD);
        check.due("price()", x.price(), 0);
        check.due("put(0)", x.put(0), Check.BAD);
        check.due("ring(0)", x.ring(0), Check.BAD);
        check.due("act(0, 0)", x.act(0, 0), Check.BAD);
        check.due("deliver(0)", x.deliver(0), Check.BAD);
        check.due("settle()", x.settle(), 0);
        check.due("letter(0, 0)", x.letter(0, 0), Check.FAILED);
        check.due("term(0, 0, 0, 0)", x.term(0, 0, 0, 0), Check.BAD);
        check.due("holds(0, 0)", x.holds(0, 0), Check.BAD);
        check.due("broken(0)", x.broken(0), Check.BAD);
        check.due("worst(0, 0)", x.worst(0, 0), Check.BAD);
        check.due("orders()", x.orders(), 1);
        check.due("beside(0, 0)", x.beside(0, 0), Check.BAD);
        check.row("unlike", x::unlike, Check.NOT, Check.NOT, Check.NOT, Check.NOT, Check.NOT, Check.BAD);
        check.due("differ()", x.differ(), 0);
        check.due("sync()", x.sync(), 0);
        check.row("restore", x::restore, Check.NOT, Check.NOT, Check.NOT, Check.NOT, Check.BAD);
    }

    private static void tenModules() {
        check.sentence("MODULES 0 .. 9, as they were made");
        PartedHouse x = new PartedHouse();
        check.row("module of the row", m -> x.module(7), 0, 1, 2, 3, 4, 5, 6, 7, 8, 9);
        check.due("an eleventh", x.module(7), Check.FULL);
        check.due("a twelfth", x.module(7), Check.FULL);
        check.due("count(0)", x.count(0), 10);
        check.due("module 9 is one", x.room(9, 3), 0);
        check.due("module 10 is none", x.room(10, 3), Check.BAD);
    }

    private static void sizes() {
        check.sentence("each with a SIZE (1 .. 99)");
        PartedHouse x = new PartedHouse();
        check.each("module(size)", Check.BAD, x::module, Check.outside(1, 99));
        check.due("none was made", x.count(0), 0);
        check.due("module(1)", x.module(1), 0);
        check.due("it has a size of 1", x.cut(1, 1), 0);
        check.due("module(99)", x.module(99), 1);
        check.due("they have 100 together", x.cut(1, 100), 0);
        check.due("not 99", x.cut(1, 99), Check.NOT);
    }

    private static void sixteenTables() {
        check.sentence("TABLES 0 .. 15, as they were made");
        PartedHouse x = new PartedHouse();
        x.module(1);
        x.module(1);
        check.row("table of the row", t -> x.table(t % 2), 0, 1, 2, 3, 4, 5, 6, 7, 8, 9, 10, 11, 12, 13, 14, 15);
        check.due("a seventeenth", x.table(0), Check.FULL);
        check.due("another home's", x.table(1), Check.FULL);
        check.due("count(1)", x.count(1), 16);
        check.due("table 15 is one", x.cell(0, 15, 0), 0);
        check.due("table 16 is none", x.cell(0, 16, 0), Check.FAILED);
    }

    private static void homes() {
        check.sentence("each of a MODULE (its HOME)");
        PartedHouse x = new PartedHouse();
        x.module(1);
        x.module(1);
        check.each("table(home)", Check.BAD, x::table, Check.outside(0, 1));
        check.due("none was made", x.count(1), 0);
        check.due("table(1)", x.table(1), 0);
        x.module(1);
        check.due("a module that came later is one", x.table(2), 1);
    }

    private static void eightCells() {
        check.sentence("with cells 0 .. 7");
        PartedHouse x = Check.house(2);
        x.law(0);
        check.row("cell", c -> x.cell(0, 0, c), 0, 0, 0, 0, 0, 0, 0, 0, Check.FAILED);
        check.row("line", c -> x.line(0, Check.WRITE, 0, c), 0, 1, 2, 3, 4, 5, 6, 7, Check.BAD);
        check.row("term", c -> x.term(0, 0, c + 2, 1), 1, 2, 3, 4, 5, 6, Check.BAD);
        check.due("cell 7 of table 0 is not that of table 1", x.run(0, 5), 5);
        check.row("cell of table 0", c -> x.cell(0, 0, c), 5, 5, 5, 5, 5, 5, 5, 5);
        check.row("cell of table 1", c -> x.cell(0, 1, c), 0, 0, 0, 0, 0, 0, 0, 0);
    }

    private static void cellsAtFirst() {
        check.sentence("(ints, 0 at first)");
        PartedHouse x = Check.house(1);
        check.row("old cell", c -> x.cell(0, 0, c), 0, 0, 0, 0, 0, 0, 0, 0);
        check.row("new cell", c -> x.cell(1, 0, c), 0, 0, 0, 0, 0, 0, 0, 0);
        Check.lines(x, 0, Check.WRITE, 0, 7);
        x.beside(0, 5);
        x.table(0);
        check.row("old cell of a later table", c -> x.cell(0, 1, c), 0, 0, 0, 0, 0, 0, 0, 0);
        check.row("new cell of a later table", c -> x.cell(1, 1, c), 0, 0, 0, 0, 0, 0, 0, 0);
    }

    private static void cellsAreInts() {
        check.sentence("(ints, 0 at first)");
        PartedHouse x = Check.house(1);
        Check.lines(x, 0, Check.WRITE, 0, 0);
        int[] numbers = {Check.GREATEST, Check.LEAST, -1, 65536, Check.FAILED};
        for (int a : numbers) {
            x.beside(0, a);
            check.due("the old house keeps " + a, x.cell(0, 0, 0), a);
            check.due("the new house keeps " + a, x.cell(1, 0, 0), a);
        }
    }

    private static void fortyRoutines() {
        check.sentence("ROUTINES 0 .. 39, as they were made");
        PartedHouse x = new PartedHouse();
        x.module(1);
        x.module(1);
        for (int r = 0; r < 40; r++) {
            check.due("routine " + r, x.routine(r % 2), r);
        }
        check.due("a forty-first", x.routine(0), Check.FULL);
        check.due("another module's", x.routine(1), Check.FULL);
        check.due("count(2)", x.count(2), 40);
        check.due("routine 39 is one", x.run(39, 4), 4);
        check.due("routine 40 is none", x.clear(40), Check.BAD);
    }

    private static void modulesOfRoutines() {
        check.sentence("ROUTINES .. each of a MODULE");
        PartedHouse x = new PartedHouse();
        x.module(1);
        x.module(1);
        check.each("routine(module)", Check.BAD, x::routine, Check.outside(0, 1));
        check.due("none was made", x.count(2), 0);
        check.due("routine(1)", x.routine(1), 0);
        x.module(1);
        check.due("a module that came later is one", x.routine(2), 1);
    }

    private static void withoutLines() {
        check.sentence("A ROUTINE, without LINES: its number.");
        PartedHouse x = Check.house(2);
        Check.lines(x, 1, Check.CALL, 0, 0, Check.ADD, 1, 0);
        check.due("it had none", x.clear(0), 0);
        check.due("its act ends with a", x.run(0, -7), -7);
        check.due("so in the new house", x.act(0, -7), -7);
        check.due("a CALL of it", x.run(1, -7), -6);
        check.due("its first line is line 0", x.line(0, Check.ADD, 1, 0), 0);
    }

    private static void sixteenLines() {
        check.sentence("with LINES, at most 16");
        PartedHouse x = Check.house(3);
        check.row("line of the row", i -> x.line(1, Check.ADD, 1, 0),
            0, 1, 2, 3, 4, 5, 6, 7, 8, 9, 10, 11, 12, 13, 14, 15, Check.FULL, Check.FULL);
        check.due("16 are done", x.run(1, 0), 16);
        check.due("the routine ahead has none", x.clear(0), 0);
        check.due("the routine behind has none", x.clear(2), 0);
        check.due("the routine behind takes one", x.line(2, Check.ADD, 100, 0), 0);
        check.due("still 16 are done", x.run(1, 0), 16);
        check.due("it had 16", x.clear(1), 16);
        check.due("and takes one again", x.line(1, Check.ADD, 1, 0), 0);
    }

    private static void linesOfNoRoutine() {
        check.sentence("A LINE more: its number. .. BAD");
        PartedHouse x = Check.house(2);
        check.each("line(routine, ..)", Check.BAD, r -> x.line(r, Check.SET, 0, 0), Check.outside(0, 1));
        check.due("line(0, ..)", x.line(0, Check.SET, 0, 0), 0);
        check.due("line(1, ..)", x.line(1, Check.SET, 0, 0), 0);
    }

    private static void nineOps() {
        check.sentence("each an OP with x and y");
        PartedHouse x = Check.house(2);
        check.each("line(0, op, 0, 0)", Check.BAD, op -> x.line(0, op, 0, 0), Check.outside(0, 8));
        check.each("line(0, op, 1, 0)", Check.BAD, op -> x.line(0, op, 1, 0), Check.outside(0, 8));
        check.row("line(0, op, ..)", op -> x.line(0, op, op == Check.FAIL ? 0 : 1, 0), 0, 1, 2, 3, 4, 5, 6, 7, 8);
    }

    private static void numbersOf(int op) {
        PartedHouse x = Check.house(1);
        check.each("line(0, op, x, 0)", Check.BAD, n -> x.line(0, op, n, 0), Check.outside(-999, 999));
        check.due("-999", x.line(0, op, -999, 0), 0);
        check.due("999", x.line(0, op, 999, 0), 1);
        check.due("0", x.line(0, op, 0, 0), 2);
    }

    private static void numbersOfSet() {
        check.sentence("Numbers of SET .. are -999 .. 999");
        numbersOf(Check.SET);
        PartedHouse x = Check.house(2);
        Check.lines(x, 0, Check.SET, -999, 0);
        Check.lines(x, 1, Check.SET, 999, 0);
        check.due("SET -999 is done", x.run(0, 5), -999);
        check.due("SET 999 is done", x.run(1, 5), 999);
    }

    private static void numbersOfAdd() {
        check.sentence("Numbers of .. ADD are -999 .. 999");
        numbersOf(Check.ADD);
        PartedHouse x = Check.house(2);
        Check.lines(x, 0, Check.ADD, -999, 0);
        Check.lines(x, 1, Check.ADD, 999, 0);
        check.due("ADD -999 is done", x.run(0, 5), -994);
        check.due("ADD 999 is done", x.run(1, 5), 1004);
    }

    private static void placesOf(int op) {
        PartedHouse x = Check.house(3);
        check.each("line(0, op, table, 0)", Check.BAD, t -> x.line(0, op, t, 0), Check.outside(0, 2));
        check.each("line(0, op, 2, cell)", Check.BAD, c -> x.line(0, op, 2, c), Check.outside(0, 7));
        check.due("the first cell", x.line(0, op, 0, 0), 0);
        check.due("the last cell", x.line(0, op, 2, 7), 1);
        check.due("a table that is to come", x.line(0, op, 3, 0), Check.BAD);
        x.table(0);
        check.due("now it came", x.line(0, op, 3, 0), 2);
    }

    private static void placesOfRead() {
        check.sentence("2 READ x y: a becomes cell y of TABLE x");
        placesOf(Check.READ);
    }

    private static void placesOfWrite() {
        check.sentence("3 WRITE x y: cell y of TABLE x becomes a");
        placesOf(Check.WRITE);
    }

    private static void placesOfMore() {
        check.sentence("7 MORE x y: a becomes a + cell y of TABLE x");
        placesOf(Check.MORE);
    }

    private static void placesOfLess() {
        check.sentence("8 LESS x y: a becomes a - cell y of TABLE x");
        placesOf(Check.LESS);
    }

    private static void routinesOfCall() {
        check.sentence("4 CALL x: ROUTINE x is done");
        PartedHouse x = Check.house(3);
        check.each("line(0, CALL, routine, 0)", Check.BAD, r -> x.line(0, Check.CALL, r, 0), Check.outside(0, 2));
        check.due("the first routine, which is its own", x.line(0, Check.CALL, 0, 0), 0);
        check.due("the last routine", x.line(0, Check.CALL, 2, 0), 1);
        x.routine(0);
        check.due("one that came later", x.line(0, Check.CALL, 3, 0), 2);
    }

    private static void numbersOfSkip() {
        check.sentence("5 SKIP x: .. the next x LINES (1 .. 15; ..)");
        PartedHouse x = Check.house(1);
        check.each("line(0, SKIP, x, 0)", Check.BAD, n -> x.line(0, Check.SKIP, n, 0), Check.outside(1, 15));
        check.row("line(0, SKIP, x + 1, 0)", i -> x.line(0, Check.SKIP, i + 1, 0),
            0, 1, 2, 3, 4, 5, 6, 7, 8, 9, 10, 11, 12, 13, 14, Check.BAD);
    }

    private static void numbersAnOpDoesNotHave() {
        check.sentence("(Numbers that an OP does not have are 0.)");
        PartedHouse x = Check.house(2);
        int[] others = {1, -1, 7, Check.LEAST, Check.GREATEST, 1 << 16};
        check.each("SET 1 y", Check.BAD, y -> x.line(0, Check.SET, 1, y), others);
        check.each("ADD 1 y", Check.BAD, y -> x.line(0, Check.ADD, 1, y), others);
        check.each("CALL 1 y", Check.BAD, y -> x.line(0, Check.CALL, 1, y), others);
        check.each("SKIP 1 y", Check.BAD, y -> x.line(0, Check.SKIP, 1, y), others);
        check.each("FAIL x 0", Check.BAD, n -> x.line(0, Check.FAIL, n, 0), others);
        check.each("FAIL 0 y", Check.BAD, y -> x.line(0, Check.FAIL, 0, y), others);
        check.due("FAIL 1 1", x.line(0, Check.FAIL, 1, 1), Check.BAD);
        check.due("no line came of these", x.clear(0), 0);
        check.row("with 0 instead", i -> x.line(0, i == 0 ? Check.SET : i == 1 ? Check.ADD : i == 2 ? Check.CALL
            : i == 3 ? Check.SKIP : Check.FAIL, i == 4 ? 0 : 1, 0), 0, 1, 2, 3, 4);
    }

    private static void clearing() {
        check.sentence("LINES of a ROUTINE go: how many it had.");
        PartedHouse x = Check.house(2);
        Check.repeat(x, 0, 16, Check.ADD, 1, 0);
        Check.lines(x, 1, Check.ADD, 5, 0);
        check.due("of 16", x.clear(0), 16);
        check.due("of none", x.clear(0), 0);
        check.due("nothing is done", x.run(0, 3), 3);
        check.due("another's stay", x.run(1, 3), 8);
        check.due("of one", x.clear(1), 1);
    }

    private static void clearOfNone() {
        check.sentence("LINES of a ROUTINE go: how many it had. BAD.");
        PartedHouse x = Check.house(2);
        Check.repeat(x, 0, 2, Check.ADD, 1, 0);
        Check.repeat(x, 1, 3, Check.ADD, 1, 0);
        check.each("clear(routine)", Check.BAD, x::clear, Check.outside(0, 1));
        check.due("lines of 0 stay", x.run(0, 0), 2);
        check.due("lines of 1 stay", x.run(1, 0), 3);
    }

    private static void callTies() {
        check.sentence("m to n, if a LINE of a ROUTINE of m is a CALL of one of n");
        PartedHouse x = Check.house(3);
        Check.lines(x, 0, Check.CALL, 2, 0);
        Check.lines(x, 1, Check.CALL, 1, 0);
        for (int m = 0; m < 3; m++) {
            for (int n = 0; n < 3; n++) {
                boolean tied = m == 0 && n == 2 || m == 1 && n == 1;
                check.due("tied(0, " + m + ", " + n + ")", x.tied(0, m, n), tied ? 1 : 0);
            }
        }
    }

    private static void readTies() {
        check.sentence("m reads .. a TABLE, if a LINE of one of its ROUTINES does so");
        int[] ops = {Check.READ, Check.MORE, Check.LESS};
        for (int op : ops) {
            PartedHouse x = Check.house(2);
            Check.lines(x, 0, op, 1, 7);
            check.due("of the one it reads, by " + op, x.tied(1, 0, 1), 1);
            check.due("of another, by " + op, x.tied(1, 0, 0), 0);
            check.due("of another module, by " + op, x.tied(1, 1, 1), 0);
            check.due("it writes none, by " + op, x.tied(2, 0, 1), 0);
            check.due("it calls none, by " + op, x.tied(0, 0, 1), 0);
        }
    }

    private static void writeTies() {
        check.sentence("m .. (writes) a TABLE, if a LINE of one of its ROUTINES does so");
        PartedHouse x = Check.house(2);
        Check.lines(x, 0, Check.WRITE, 1, 7);
        check.due("of the one it writes", x.tied(2, 0, 1), 1);
        check.due("of another", x.tied(2, 0, 0), 0);
        check.due("of another module", x.tied(2, 1, 1), 0);
        check.due("it reads none", x.tied(1, 0, 1), 0);
        check.due("it calls none", x.tied(0, 0, 1), 0);
    }

    private static void tiesOfTheTextAlone() {
        check.sentence("TEXT TIES");
        PartedHouse x = Check.house(2);
        check.each("no line, no tie", 0, what -> x.tied(what, 0, 1), 0, 1, 2);
        check.each("refused lines tie nothing", Check.BAD, op -> x.line(0, op, 1, 8), Check.READ, Check.WRITE, Check.CALL);
        check.each("as before", 0, what -> x.tied(what, 0, 1), 0, 1, 2);
        Check.lines(x, 0, Check.SKIP, 3, 0, Check.READ, 1, 0, Check.WRITE, 1, 0, Check.CALL, 1, 0);
        x.run(0, 0);
        check.each("lines that are never done tie", 1, what -> x.tied(what, 0, 1), 0, 1, 2);
        check.each("but are not counted", 0, what -> x.counted(what, 0, 1), 0, 1, 2);
        x.run(0, 1);
        x.clear(0);
        check.each("lines that went do not", 0, what -> x.tied(what, 0, 1), 0, 1, 2);
        check.each("but stay counted", 1, what -> x.counted(what, 0, 1), 0, 1, 2);
        Check.repeat(x, 0, 16, Check.ADD, 1, 0);
        check.due("past the last line", x.line(0, Check.WRITE, 1, 0), Check.FULL);
        check.due("what was refused so ties nothing", x.tied(2, 0, 1), 0);
    }

    private static void tiesOfNone() {
        check.sentence("1 if there is such a TEXT TIE (what as counted()), else 0. BAD.");
        PartedHouse x = Check.house(2);
        x.table(0);
        check.each("tied(what, 0, 0)", Check.BAD, what -> x.tied(what, 0, 0), Check.outside(0, 2));
        check.each("tied(0, m, 0)", Check.BAD, m -> x.tied(0, m, 0), Check.outside(0, 1));
        check.each("tied(1, m, 0)", Check.BAD, m -> x.tied(1, m, 0), Check.outside(0, 1));
        check.each("tied(2, m, 0)", Check.BAD, m -> x.tied(2, m, 0), Check.outside(0, 1));
        check.each("tied(0, 0, n)", Check.BAD, n -> x.tied(0, 0, n), Check.outside(0, 1));
        check.each("tied(1, 0, t)", Check.BAD, t -> x.tied(1, 0, t), Check.outside(0, 2));
        check.each("tied(2, 0, t)", Check.BAD, t -> x.tied(2, 0, t), Check.outside(0, 2));
        check.due("table 2 is one", x.tied(1, 0, 2), 0);
        check.due("module 2 is none", x.tied(0, 0, 2), Check.BAD);
    }
}
