/** Promises 7 to 9: acts in the old house, its cells, and what is counted of them. */
public final class OldHouseTest {
    private static final Check check = new Check();

    public static void main(String[] args) {
        ops();
        skips();
        fails();
        mostLines();
        mostOpen();
        failedLeavesNothing();
        cells();
        allCells();
        counts();
        check.end();
    }

    private static int runOf(int a, int... lines) {
        PartedHouse x = Check.house(1);
        Check.lines(x, 0, lines);
        return x.run(0, a);
    }

    private static void ops() {
        check.due("SET", runOf(9, Check.SET, -999, 0), -999);
        check.due("ADD", runOf(9, Check.ADD, -999, 0), -990);
        check.due("ADD wraps", runOf(Integer.MIN_VALUE, Check.ADD, -1, 0), Integer.MAX_VALUE);
        check.due("WRITE, READ", runOf(7, Check.WRITE, 0, 3, Check.SET, 1, 0, Check.READ, 0, 3), 7);
        check.due("READ of another cell", runOf(7, Check.WRITE, 0, 3, Check.READ, 0, 4), 0);
        check.due("MORE", runOf(7, Check.WRITE, 0, 3, Check.ADD, 1, 0, Check.MORE, 0, 3), 15);
        check.due("LESS", runOf(7, Check.WRITE, 0, 3, Check.ADD, 1, 0, Check.LESS, 0, 3), 1);
        check.due("MORE wraps", runOf(Integer.MAX_VALUE, Check.WRITE, 0, 0, Check.MORE, 0, 0), -2);
        check.due("LESS wraps", runOf(Integer.MIN_VALUE, Check.WRITE, 0, 0, Check.SET, 0, 0, Check.LESS, 0, 0),
            Integer.MIN_VALUE);
        PartedHouse x = Check.house(2);
        Check.lines(x, 0, Check.ADD, 1, 0, Check.CALL, 1, 0, Check.ADD, 100, 0);
        Check.lines(x, 1, Check.ADD, 10, 0);
        check.due("CALL changes a and goes on", x.run(0, 0), 111);
        check.due("-1 is an answer, too", x.run(1, -11), -1);
        check.due("run(2, 0)", x.run(2, 0), Check.BAD);
        check.due("run(-1, 0)", x.run(-1, 0), Check.BAD);
        check.due("the number FAILED as an answer", x.run(1, Check.FAILED - 10), Check.FAILED);
        check.due("it did not fail", x.count(4), 3);
    }

    private static void skips() {
        int[] lines = {Check.SKIP, 2, 0, Check.ADD, 1, 0, Check.ADD, 10, 0, Check.ADD, 100, 0};
        check.due("SKIP at 0", runOf(0, lines), 100);
        check.due("SKIP at 1", runOf(1, lines), 112);
        check.due("SKIP at -1", runOf(-1, lines), 110);
        check.due("SKIP past the end", runOf(0, Check.SKIP, 15, 0, Check.ADD, 1, 0), 0);
        check.due("SKIP as the last", runOf(0, Check.ADD, 0, 0, Check.SKIP, 1, 0), 0);
        PartedHouse x = Check.house(2);
        Check.lines(x, 0, Check.CALL, 1, 0, Check.ADD, 1, 0);
        Check.lines(x, 1, Check.SKIP, 15, 0, Check.ADD, 10, 0);
        check.due("SKIP ends at its own routine's end", x.run(0, 0), 1);
    }

    private static void fails() {
        check.due("FAIL at 0", runOf(0, Check.FAIL, 0, 0, Check.ADD, 1, 0), 1);
        check.due("FAIL at -1", runOf(-1, Check.FAIL, 0, 0, Check.ADD, 1, 0), Check.FAILED);
        check.due("FAIL at 1", runOf(1, Check.FAIL, 0, 0), 1);
        check.due("FAIL that is skipped", runOf(0, Check.SKIP, 2, 0, Check.ADD, -1, 0, Check.FAIL, 0, 0), 0);
        PartedHouse x = Check.house(2);
        Check.lines(x, 0, Check.CALL, 1, 0, Check.SET, 3, 0);
        Check.lines(x, 1, Check.FAIL, 0, 0);
        check.due("FAIL in a called routine", x.run(0, -1), Check.FAILED);
    }

    private static PartedHouse threeHundred() {
        PartedHouse x = Check.house(4);
        for (int i = 0; i < 16; i++) {
            Check.lines(x, 0, Check.ADD, 1, 0);
            Check.lines(x, 1, Check.CALL, 0, 0);
        }
        for (int i = 0; i < 15; i++) {
            Check.lines(x, 3, Check.ADD, 1, 0);
        }
        Check.lines(x, 2, Check.CALL, 1, 0, Check.CALL, 3, 0);
        for (int i = 0; i < 11; i++) {
            Check.lines(x, 2, Check.ADD, 1, 0);
        }
        return x;
    }

    private static void mostLines() {
        PartedHouse x = threeHundred();
        check.due("300 lines", x.run(2, 0), 256 + 15 + 11);
        check.due("300 lines in the new house", x.act(2, 0), 256 + 15 + 11);
        Check.lines(x, 2, Check.ADD, 1, 0);
        check.due("301 lines", x.run(2, 0), Check.FAILED);
        check.due("301 lines in the new house", x.act(2, 0), Check.FAILED);
        check.due("only what did not fail counts", x.count(4), 1);
        check.due("so in the new house", x.count(5), 1);
        check.due("calls counted once", x.counted(0, 1, 0), 16);
        PartedHouse y = threeHundred();
        y.clear(2);
        Check.lines(y, 2, Check.CALL, 1, 0, Check.CALL, 3, 0);
        for (int i = 0; i < 9; i++) {
            Check.lines(y, 2, Check.ADD, 1, 0);
        }
        Check.lines(y, 2, Check.SET, 0, 0, Check.SKIP, 3, 0, Check.ADD, 1, 0, Check.ADD, 1, 0, Check.ADD, 1, 0);
        check.due("skipped lines are not counted", y.run(2, 0), 0);
    }

    private static void mostOpen() {
        PartedHouse x = Check.house(9);
        for (int r = 0; r < 8; r++) {
            Check.lines(x, r, Check.ADD, 1, 0, Check.CALL, r + 1, 0);
        }
        check.due("8 open", x.run(1, 0), 7);
        check.due("9 open", x.run(0, 0), Check.FAILED);
        check.due("8 open in the new house", x.act(1, 0), 7);
        check.due("9 open in the new house", x.act(0, 0), Check.FAILED);
        PartedHouse y = Check.house(2);
        for (int i = 0; i < 16; i++) {
            Check.lines(y, 0, Check.CALL, 1, 0);
        }
        check.due("calls one behind another are closed", y.run(0, 3), 3);
    }

    private static void failedLeavesNothing() {
        PartedHouse x = Check.house(2);
        Check.lines(x, 0, Check.WRITE, 0, 0, Check.READ, 1, 0, Check.CALL, 1, 0, Check.ADD, -1, 0, Check.FAIL, 0, 0);
        check.due("run(0, 4)", x.run(0, 4), Check.FAILED);
        check.due("no cell", x.cell(0, 0, 0), 0);
        check.due("no write", x.counted(2, 0, 0), 0);
        check.due("no read", x.counted(1, 0, 1), 0);
        check.due("no call", x.counted(0, 0, 1), 0);
        check.due("no act", x.count(4), 0);
        x.room(1, 1);
        check.due("no price", x.price(), 0);
        check.due("a later act starts anew", x.run(1, 5), 5);
        check.due("the new act wrote nothing", x.cell(0, 0, 0), 0);
    }

    private static void cells() {
        PartedHouse x = Check.house(2);
        Check.lines(x, 0, Check.WRITE, 1, 7);
        check.due("run(0, -6)", x.run(0, -6), -6);
        check.due("cell(0, 1, 7)", x.cell(0, 1, 7), -6);
        check.due("cell(1, 1, 7)", x.cell(1, 1, 7), 0);
        check.due("cell(0, 0, 7)", x.cell(0, 0, 7), 0);
        check.due("cell(2, 0, 0)", x.cell(2, 0, 0), Check.FAILED);
        check.due("cell(-1, 0, 0)", x.cell(-1, 0, 0), Check.FAILED);
        check.due("cell(0, 2, 0)", x.cell(0, 2, 0), Check.FAILED);
        check.due("cell(0, -1, 0)", x.cell(0, -1, 0), Check.FAILED);
        check.due("cell(0, 0, 8)", x.cell(0, 0, 8), Check.FAILED);
        check.due("cell(0, 0, -1)", x.cell(0, 0, -1), Check.FAILED);
    }

    /** One act writes all 128 cells there are, and another one again. */
    private static void allCells() {
        PartedHouse x = new PartedHouse();
        x.module(1);
        x.routine(0);
        for (int r = 1; r <= 8; r++) {
            x.routine(0);
            x.table(0);
            x.table(0);
            Check.lines(x, 0, Check.CALL, r, 0);
            for (int c = 0; c < 16; c++) {
                Check.lines(x, r, Check.WRITE, 2 * r - 2 + c / 8, c % 8);
            }
        }
        check.due("all cells", x.run(0, 3), 3);
        check.due("they differ", x.differ(), 128);
        check.due("all cells again", x.run(0, 4), 4);
        check.due("the last one", x.cell(0, 15, 7), 4);
        check.due("all cells beside", x.beside(0, 5), 1);
        check.due("none differs", x.differ(), 0);
    }

    private static void counts() {
        PartedHouse x = Check.house(3);
        Check.lines(x, 0, Check.READ, 2, 0, Check.MORE, 2, 1, Check.LESS, 2, 2, Check.WRITE, 1, 0, Check.WRITE, 1, 0,
            Check.CALL, 2, 0, Check.CALL, 0 + 1, 0);
        Check.lines(x, 2, Check.READ, 2, 0, Check.CALL, 1, 0);
        check.due("run(0, 0)", x.run(0, 0), 0);
        check.due("run(0, 1)", x.run(0, 1), 0);
        check.due("reads, more and less", x.counted(1, 0, 2), 6);
        check.due("reads of a called routine", x.counted(1, 2, 2), 2);
        check.due("writes", x.counted(2, 0, 1), 4);
        check.due("calls 0 to 2", x.counted(0, 0, 2), 2);
        check.due("calls 0 to 1", x.counted(0, 0, 1), 2);
        check.due("calls 2 to 1", x.counted(0, 2, 1), 2);
        check.due("calls 1 to 2", x.counted(0, 1, 2), 0);
        check.due("counted(3, 0, 0)", x.counted(3, 0, 0), Check.BAD);
        check.due("counted(-1, 0, 0)", x.counted(-1, 0, 0), Check.BAD);
        check.due("counted(0, 3, 0)", x.counted(0, 3, 0), Check.BAD);
        check.due("counted(0, 0, 3)", x.counted(0, 0, 3), Check.BAD);
        check.due("counted(1, -1, 0)", x.counted(1, -1, 0), Check.BAD);
        check.due("counted(2, 0, 3)", x.counted(2, 0, 3), Check.BAD);
        x.act(0, 0);
        check.due("acts in the new house count nothing here", x.counted(2, 0, 1), 4);
        check.due("count(4)", x.count(4), 2);
        x.beside(0, 0);
        check.due("beside counts here", x.counted(2, 0, 1), 6);
        check.due("count(4) with beside", x.count(4), 3);
        check.due("count(5) with beside", x.count(5), 2);
    }
}
