/** The sentences on acts and the old house that name a boundary case: promises 7 to 9. */
public final class OldHouseEdgesTest {
    private static final Check check = new Check();

    public static void main(String[] args) {
        skipAtZeroAlone();
        skipOfSoMany();
        skipOfAsManyAsThereAre();
        skipInItsOwnRoutine();
        failBelowZero();
        addWraps();
        moreWraps();
        lessWraps();
        the301stLine();
        the301stLineOfEachKind();
        skippedLinesAreNotCounted();
        the9thOpenCall();
        theFirstOpenOne();
        closedCalls();
        failedChangesNoCell();
        failedCountsNothing();
        aLaterActAfterAFailedOne();
        aAtTheEnd();
        aCalledRoutineMayChangeA();
        runsOfNone();
        minusOneIsAnAnswer();
        failedIsAnAnswerToo();
        noSuchCell();
        countsOfCalls();
        countsOfReads();
        countsOfWrites();
        countsAreApart();
        countsOfTheOldHouseAlone();
        countsOfNone();
        check.end();
    }

    private static int runOf(int a, int... lines) {
        PartedHouse x = Check.house(2);
        Check.lines(x, 0, lines);
        return x.run(0, a);
    }

    private static void skipAtZeroAlone() {
        check.sentence("5 SKIP x: if a is 0");
        check.due("at 0", runOf(0, Check.SKIP, 1, 0, Check.ADD, 10, 0), 0);
        check.due("at 1", runOf(1, Check.SKIP, 1, 0, Check.ADD, 10, 0), 11);
        check.due("at -1", runOf(-1, Check.SKIP, 1, 0, Check.ADD, 10, 0), 9);
        check.due("at the least", runOf(Check.LEAST, Check.SKIP, 1, 0, Check.ADD, 10, 0), Check.LEAST + 10);
    }

    private static void skipOfSoMany() {
        check.sentence("the next x LINES (1 .. 15; ..) are not done");
        for (int n = 1; n <= 15; n++) {
            PartedHouse x = Check.house(1);
            Check.lines(x, 0, Check.SKIP, n, 0);
            Check.repeat(x, 0, 15, Check.ADD, 1, 0);
            check.due("SKIP " + n + " of 15", x.run(0, 0), 15 - n);
        }
    }

    private static void skipOfAsManyAsThereAre() {
        check.sentence("(1 .. 15; as many as there are)");
        for (int there = 0; there < 15; there++) {
            PartedHouse x = Check.house(1);
            Check.lines(x, 0, Check.SKIP, 15, 0);
            Check.repeat(x, 0, there, Check.ADD, 1, 0);
            check.due("SKIP 15 of " + there, x.run(0, 0), 0);
        }
        PartedHouse y = Check.house(2);
        Check.repeat(y, 0, 15, Check.ADD, 0, 0);
        Check.lines(y, 0, Check.SKIP, 15, 0);
        Check.repeat(y, 1, 15, Check.ADD, 1, 0);
        check.due("past a full routine's end no other's lines are met", y.run(0, 0), 0);
    }

    private static void skipInItsOwnRoutine() {
        check.sentence("(1 .. 15; as many as there are)");
        PartedHouse x = Check.house(2);
        Check.lines(x, 0, Check.CALL, 1, 0, Check.ADD, 1, 0, Check.ADD, 10, 0);
        Check.lines(x, 1, Check.SKIP, 15, 0, Check.ADD, 100, 0);
        check.due("the caller's lines are done", x.run(0, 0), 11);
    }

    private static void failBelowZero() {
        check.sentence("6 FAIL: if a is below 0 the ACT FAILS");
        check.due("at 0", runOf(0, Check.FAIL, 0, 0), 0);
        check.due("at -1", runOf(-1, Check.FAIL, 0, 0), Check.FAILED);
        check.due("at 1", runOf(1, Check.FAIL, 0, 0), 1);
        check.due("at the least", runOf(Check.LEAST, Check.FAIL, 0, 0), Check.FAILED);
        check.due("at the greatest", runOf(Check.GREATEST, Check.FAIL, 0, 0), Check.GREATEST);
        check.due("what comes behind it is done", runOf(0, Check.FAIL, 0, 0, Check.ADD, -5, 0), -5);
    }

    private static void addWraps() {
        check.sentence("1 ADD x .. a wraps");
        check.due("past the greatest", runOf(Check.GREATEST, Check.ADD, 1, 0), Check.LEAST);
        check.due("past the greatest by 999", runOf(Check.GREATEST, Check.ADD, 999, 0), Check.LEAST + 998);
        check.due("past the least", runOf(Check.LEAST, Check.ADD, -1, 0), Check.GREATEST);
        check.due("to the greatest", runOf(Check.GREATEST - 999, Check.ADD, 999, 0), Check.GREATEST);
        check.due("to the least", runOf(Check.LEAST + 999, Check.ADD, -999, 0), Check.LEAST);
    }

    private static void moreWraps() {
        check.sentence("7 MORE x y .. a wraps");
        check.due("past the greatest", runOf(Check.GREATEST, Check.WRITE, 0, 0, Check.MORE, 0, 0), -2);
        check.due("past the least", runOf(Check.LEAST, Check.WRITE, 0, 0, Check.MORE, 0, 0), 0);
        check.due("by one", runOf(Check.GREATEST, Check.WRITE, 0, 0, Check.SET, 1, 0, Check.MORE, 0, 0), Check.LEAST);
    }

    private static void lessWraps() {
        check.sentence("8 LESS x y .. a wraps");
        check.due("0 less the least", runOf(Check.LEAST, Check.WRITE, 0, 0, Check.SET, 0, 0, Check.LESS, 0, 0),
            Check.LEAST);
        check.due("-2 less the greatest", runOf(Check.GREATEST, Check.WRITE, 0, 0, Check.SET, -2, 0, Check.LESS, 0, 0),
            Check.GREATEST);
        check.due("-1 less the greatest", runOf(Check.GREATEST, Check.WRITE, 0, 0, Check.SET, -1, 0, Check.LESS, 0, 0),
            Check.LEAST);
    }

    /** Routine 0 does 290 lines by its CALLs of 1 and 2 (272 and 16 and the CALLs), which add 272 to a. */
    private static PartedHouse did290() {
        PartedHouse x = Check.house(4);
        Check.repeat(x, 2, 16, Check.ADD, 1, 0);
        Check.repeat(x, 1, 16, Check.CALL, 2, 0);
        Check.lines(x, 0, Check.CALL, 1, 0, Check.CALL, 2, 0);
        return x;
    }

    private static void the301stLine() {
        check.sentence("It FAILS, too, with the 301st LINE that would be done");
        for (int lines = 290; lines <= 304; lines++) {
            PartedHouse x = did290();
            Check.repeat(x, 0, lines - 290, Check.ADD, 1, 0);
            int due = lines > 300 ? Check.FAILED : 272 + lines - 290;
            check.due(lines + " lines", x.run(0, 0), due);
            check.due(lines + " lines in the new house", x.act(0, 0), due);
        }
    }

    private static void the301stLineOfEachKind() {
        check.sentence("It FAILS, too, with the 301st LINE that would be done");
        for (int op = 0; op <= 8; op++) {
            int number = op == Check.CALL ? 3 : op == Check.SKIP ? 1 : 0;
            PartedHouse x = did290();
            Check.repeat(x, 0, 9, Check.SET, 0, 0);
            Check.lines(x, 0, op, number, 0);
            check.due("the 300th with the op " + op, x.run(0, 0), 0);
            PartedHouse y = did290();
            Check.repeat(y, 0, 10, Check.SET, 0, 0);
            Check.lines(y, 0, op, number, 0);
            check.due("the 301st with the op " + op, y.run(0, 0), Check.FAILED);
        }
    }

    private static void skippedLinesAreNotCounted() {
        check.sentence("(SKIPPED ones not counted)");
        PartedHouse x = did290();
        Check.repeat(x, 0, 9, Check.SET, 0, 0);
        Check.lines(x, 0, Check.SKIP, 4, 0);
        Check.repeat(x, 0, 4, Check.ADD, 1, 0);
        check.due("300 done and 4 skipped", x.run(0, 0), 0);
        check.due("so in the new house", x.act(0, 0), 0);
        PartedHouse y = did290();
        Check.repeat(y, 0, 9, Check.SET, 0, 0);
        Check.lines(y, 0, Check.SKIP, 3, 0);
        Check.repeat(y, 0, 4, Check.ADD, 1, 0);
        check.due("300 done, 3 skipped and a 301st behind them", y.run(0, 0), Check.FAILED);
    }

    /** Routine 0 goes down from a to 0 by CALLs of itself: a routines are open then. */
    private static PartedHouse down() {
        PartedHouse x = Check.house(1);
        Check.lines(x, 0, Check.ADD, -1, 0, Check.SKIP, 1, 0, Check.CALL, 0, 0);
        return x;
    }

    private static void the9thOpenCall() {
        check.sentence("with a CALL that would be the 9th open one");
        PartedHouse x = down();
        for (int open = 1; open <= 11; open++) {
            check.due(open + " open", x.run(0, open), open < 9 ? 0 : Check.FAILED);
            check.due(open + " open in the new house", x.act(0, open), open < 9 ? 0 : Check.FAILED);
        }
        PartedHouse y = Check.house(10);
        for (int r = 0; r < 8; r++) {
            Check.lines(y, r, Check.CALL, r + 1, 0);
        }
        check.due("the 8th is without lines", y.run(1, 3), 3);
        check.due("the 9th is without lines", y.run(0, 3), Check.FAILED);
    }

    private static void theFirstOpenOne() {
        check.sentence("(the ROUTINE it begins with is the first)");
        PartedHouse x = down();
        check.due("7 CALLs", x.run(0, 8), 0);
        check.due("they are counted", x.counted(0, 0, 0), 7);
        check.due("8 CALLs", x.run(0, 9), Check.FAILED);
        check.due("they are not", x.counted(0, 0, 0), 7);
    }

    private static void closedCalls() {
        check.sentence("with a CALL that would be the 9th open one");
        PartedHouse x = Check.house(2);
        Check.repeat(x, 0, 16, Check.CALL, 1, 0);
        Check.lines(x, 1, Check.ADD, 1, 0);
        check.due("16 CALLs, each closed ahead of the next", x.run(0, 0), 16);
        PartedHouse y = Check.house(9);
        for (int r = 0; r < 7; r++) {
            Check.lines(y, r, Check.CALL, r + 1, 0, Check.CALL, 8, 0);
        }
        Check.lines(y, 8, Check.ADD, 1, 0);
        check.due("8 open, and as each one closes one more CALL", y.run(0, 0), 7);
    }

    /** Routine 0 writes, reads and calls, and then fails: 0 by FAIL, 1 with its 301st line, 2 with a 9th open call. */
    private static PartedHouse failing(int cause) {
        PartedHouse x = Check.house(5);
        for (int m = 1; m < 5; m++) {
            x.room(m, m);
        }
        Check.lines(x, 0, Check.WRITE, 0, 0, Check.WRITE, 1, 7, Check.READ, 1, 7, Check.MORE, 2, 0, Check.CALL, 1, 0);
        if (cause == 0) {
            Check.lines(x, 0, Check.SET, -1, 0, Check.FAIL, 0, 0);
        } else if (cause == 1) {
            Check.repeat(x, 2, 16, Check.ADD, 1, 0);
            Check.repeat(x, 3, 16, Check.CALL, 2, 0);
            Check.repeat(x, 0, 2, Check.CALL, 3, 0);
        } else {
            Check.lines(x, 0, Check.CALL, 4, 0);
            Check.lines(x, 4, Check.CALL, 4, 0);
        }
        return x;
    }

    private static void failedChangesNoCell() {
        check.sentence("What it FAILED in changes no cell");
        for (int cause = 0; cause < 3; cause++) {
            PartedHouse x = failing(cause);
            check.due("run, cause " + cause, x.run(0, 6), Check.FAILED);
            check.due("act, cause " + cause, x.act(0, 6), Check.FAILED);
            check.due("beside, cause " + cause, x.beside(0, 6), 1);
            for (int house = 0; house < 2; house++) {
                check.due("cell 0 of table 0, house " + house + ", cause " + cause, x.cell(house, 0, 0), 0);
                check.due("cell 7 of table 1, house " + house + ", cause " + cause, x.cell(house, 1, 7), 0);
            }
        }
    }

    private static void failedCountsNothing() {
        check.sentence("What it FAILED in .. counts nothing");
        for (int cause = 0; cause < 3; cause++) {
            PartedHouse x = failing(cause);
            x.run(0, 6);
            x.act(0, 6);
            x.beside(0, 6);
            for (int place = 0; place < 75; place++) {
                int what = place / 25, m = place / 5 % 5, other = place % 5;
                String call = "counted(" + what + ", " + m + ", " + other + "), cause " + cause;
                check.due(call, x.counted(what, m, other), 0);
            }
            check.due("price, cause " + cause, x.price(), 0);
            check.due("acts in the old house, cause " + cause, x.count(4), 0);
            check.due("acts in the new house, cause " + cause, x.count(5), 0);
        }
    }

    private static void aLaterActAfterAFailedOne() {
        check.sentence("What it FAILED in changes no cell, sends no letter, counts nothing");
        for (int cause = 0; cause < 3; cause++) {
            PartedHouse x = failing(cause);
            x.run(0, 6);
            check.due("another act, cause " + cause, x.run(1, 2), 2);
            check.due("cell 0 of table 0, cause " + cause, x.cell(0, 0, 0), 0);
            check.due("writes, cause " + cause, x.counted(2, 0, 0), 0);
            x.act(0, 6);
            check.due("another act in the new house, cause " + cause, x.act(1, 2), 2);
            check.due("letters, cause " + cause, x.count(6), 0);
            check.due("new cell 0 of table 0, cause " + cause, x.cell(1, 0, 0), 0);
        }
    }

    private static void aAtTheEnd() {
        check.sentence("Its answer is a at the end.");
        check.due("without lines", runOf(17), 17);
        check.due("the least", runOf(Check.LEAST), Check.LEAST);
        check.due("the greatest", runOf(Check.GREATEST), Check.GREATEST);
        check.due("with lines", runOf(17, Check.ADD, 1, 0, Check.WRITE, 0, 0, Check.ADD, 1, 0), 19);
        check.due("behind a last CALL", runOf(17, Check.ADD, 1, 0, Check.CALL, 1, 0), 18);
    }

    private static void aCalledRoutineMayChangeA() {
        check.sentence("(with a, which it may change)");
        PartedHouse x = Check.house(3);
        Check.lines(x, 0, Check.ADD, 1, 0, Check.CALL, 1, 0, Check.WRITE, 0, 0);
        Check.lines(x, 1, Check.WRITE, 1, 0, Check.ADD, 10, 0, Check.CALL, 2, 0);
        check.due("changed by the one", x.run(0, 5), 16);
        check.due("told with a", x.cell(0, 1, 0), 6);
        check.due("and gone on with", x.cell(0, 0, 0), 16);
    }

    private static void runsOfNone() {
        check.sentence("AN ACT in THE OLD HOUSE: a. BAD");
        PartedHouse x = Check.house(2);
        check.each("run(routine, 5)", Check.BAD, r -> x.run(r, 5), Check.outside(0, 1));
        check.due("no act was done", x.count(4), 0);
        check.due("run(1, 5)", x.run(1, 5), 5);
    }

    private static void minusOneIsAnAnswer() {
        check.sentence("BAD (-1 is an answer, too)");
        PartedHouse x = Check.house(1);
        Check.lines(x, 0, Check.WRITE, 0, 0);
        check.due("run(0, -1)", x.run(0, -1), -1);
        check.due("its act counts", x.count(4), 1);
        check.due("and writes", x.cell(0, 0, 0), -1);
        check.due("run(1, -1)", x.run(1, -1), Check.BAD);
        check.due("which does not count", x.count(4), 1);
    }

    private static void failedIsAnAnswerToo() {
        check.sentence("Its answer is a at the end.");
        PartedHouse x = Check.house(1);
        Check.lines(x, 0, Check.WRITE, 0, 0);
        check.due("a is the number FAILED", x.run(0, Check.FAILED), Check.FAILED);
        check.due("its act counts", x.count(4), 1);
        check.due("and writes", x.cell(0, 0, 0), Check.FAILED);
        check.due("so in the new house", x.act(0, Check.FAILED), Check.FAILED);
        check.due("its act counts there", x.count(5), 1);
        check.due("and writes there", x.cell(1, 0, 0), Check.FAILED);
    }

    private static void noSuchCell() {
        check.sentence("FAILED: no such cell.");
        PartedHouse x = Check.house(2);
        Check.lines(x, 0, Check.WRITE, 0, 0, Check.WRITE, 0, 7, Check.WRITE, 1, 0, Check.WRITE, 1, 7);
        x.beside(0, 5);
        check.each("cell(house, 0, 0)", Check.FAILED, h -> x.cell(h, 0, 0), Check.outside(0, 1));
        check.each("cell(0, table, 0)", Check.FAILED, t -> x.cell(0, t, 0), Check.outside(0, 1));
        check.each("cell(1, table, 0)", Check.FAILED, t -> x.cell(1, t, 0), Check.outside(0, 1));
        check.each("cell(0, 0, cell)", Check.FAILED, c -> x.cell(0, 0, c), Check.outside(0, 7));
        check.each("cell(1, 1, cell)", Check.FAILED, c -> x.cell(1, 1, c), Check.outside(0, 7));
        check.row("cell(house, 1, 7)", h -> x.cell(h, 1, 7), 5, 5, Check.FAILED);
    }

    private static void countsOfCalls() {
        check.sentence("of each two MODULES m, n how many CALLS from a ROUTINE of m to one of n were done");
        PartedHouse x = Check.house(3);
        Check.lines(x, 0, Check.CALL, 1, 0, Check.CALL, 1, 0, Check.SET, 0, 0, Check.SKIP, 1, 0, Check.CALL, 2, 0);
        Check.lines(x, 1, Check.CALL, 2, 0);
        x.routine(1);
        Check.lines(x, 3, Check.CALL, 1, 0);
        check.each("none at first", 0, n -> x.counted(0, 0, n), 0, 1, 2);
        x.run(0, 1);
        x.run(3, 1);
        check.row("from 0 (one is skipped)", n -> x.counted(0, 0, n), 0, 2, 0, Check.BAD);
        check.row("from 1 (by two routines, one call of its own)", n -> x.counted(0, 1, n), 0, 1, 3, Check.BAD);
        check.row("from 2", n -> x.counted(0, 2, n), 0, 0, 0, Check.BAD);
    }

    private static void countsOfReads() {
        check.sentence("of each MODULE and TABLE how many READS (MORE and LESS, too)");
        PartedHouse x = Check.house(3);
        Check.lines(x, 0, Check.READ, 1, 0, Check.MORE, 1, 0, Check.MORE, 1, 7, Check.LESS, 1, 0, Check.LESS, 1, 0,
            Check.LESS, 1, 1, Check.SET, 0, 0, Check.SKIP, 1, 0, Check.READ, 2, 0);
        x.run(0, 1);
        check.row("of module 0 (one is skipped)", t -> x.counted(1, 0, t), 0, 6, 0, Check.BAD);
        check.row("of module 1", t -> x.counted(1, 1, t), 0, 0, 0, Check.BAD);
        check.row("they are no writes", t -> x.counted(2, 0, t), 0, 0, 0, Check.BAD);
    }

    private static void countsOfWrites() {
        check.sentence("and WRITES, its ROUTINES did");
        PartedHouse x = Check.house(3);
        Check.lines(x, 0, Check.WRITE, 1, 0, Check.WRITE, 1, 0, Check.WRITE, 1, 7, Check.WRITE, 0, 0, Check.SET, 0, 0,
            Check.SKIP, 1, 0, Check.WRITE, 2, 0);
        x.run(0, 1);
        check.row("of module 0 (one is skipped)", t -> x.counted(2, 0, t), 1, 3, 0, Check.BAD);
        check.row("of module 1", t -> x.counted(2, 1, t), 0, 0, 0, Check.BAD);
        check.row("they are no reads", t -> x.counted(1, 0, t), 0, 0, 0, Check.BAD);
    }

    /** The first and the last module and table: each pair is counted in a place of its own. */
    private static void countsAreApart() {
        check.sentence("of each two MODULES m, n .., of each MODULE and TABLE");
        PartedHouse x = new PartedHouse();
        for (int m = 0; m < 10; m++) {
            x.module(1);
        }
        for (int t = 0; t < 16; t++) {
            x.table(9);
        }
        x.routine(0);
        x.routine(9);
        x.routine(0);
        x.routine(9);
        Check.lines(x, 0, Check.CALL, 2, 0, Check.READ, 0, 0, Check.WRITE, 0, 0);
        Check.lines(x, 0, Check.CALL, 3, 0, Check.READ, 15, 0, Check.WRITE, 15, 0);
        Check.lines(x, 1, Check.CALL, 2, 0, Check.READ, 0, 0, Check.WRITE, 0, 0);
        Check.lines(x, 1, Check.CALL, 3, 0, Check.READ, 15, 0, Check.WRITE, 15, 0);
        x.run(0, 1);
        x.run(1, 1);
        x.run(1, 1);
        for (int m = 0; m < 10; m++) {
            int due = m == 0 ? 1 : m == 9 ? 2 : 0;
            for (int n = 0; n < 10; n++) {
                check.due("calls of " + m + " to " + n, x.counted(0, m, n), n % 9 == 0 ? due : 0);
            }
            for (int t = 0; t < 16; t++) {
                check.due("reads of " + m + " of table " + t, x.counted(1, m, t), t % 15 == 0 ? due : 0);
                check.due("writes of " + m + " of table " + t, x.counted(2, m, t), t % 15 == 0 ? due : 0);
            }
        }
    }

    private static void countsOfTheOldHouseAlone() {
        check.sentence("Counts of ACTS that did not FAIL, run in THE OLD HOUSE");
        PartedHouse x = Check.house(2);
        Check.lines(x, 0, Check.CALL, 1, 0, Check.READ, 1, 0, Check.WRITE, 1, 0);
        x.act(0, 1);
        check.row("an act in the new house", what -> x.counted(what, 0, 1), 0, 0, 0, Check.BAD);
        x.beside(0, 1);
        check.row("one run beside", what -> x.counted(what, 0, 1), 1, 1, 1, Check.BAD);
        x.run(0, 1);
        check.row("one run", what -> x.counted(what, 0, 1), 2, 2, 2, Check.BAD);
    }

    private static void countsOfNone() {
        check.sentence("Counts: CALLS (what 0) .. READS (1), WRITES (2) .. BAD.");
        PartedHouse x = Check.house(2);
        x.table(0);
        check.each("counted(what, 0, 0)", Check.BAD, what -> x.counted(what, 0, 0), Check.outside(0, 2));
        check.each("counted(0, m, 0)", Check.BAD, m -> x.counted(0, m, 0), Check.outside(0, 1));
        check.each("counted(1, m, 0)", Check.BAD, m -> x.counted(1, m, 0), Check.outside(0, 1));
        check.each("counted(2, m, 0)", Check.BAD, m -> x.counted(2, m, 0), Check.outside(0, 1));
        check.each("counted(0, 0, n)", Check.BAD, n -> x.counted(0, 0, n), Check.outside(0, 1));
        check.each("counted(1, 0, t)", Check.BAD, t -> x.counted(1, 0, t), Check.outside(0, 2));
        check.each("counted(2, 0, t)", Check.BAD, t -> x.counted(2, 0, t), Check.outside(0, 2));
        check.due("table 2 is one", x.counted(2, 0, 2), 0);
        check.due("module 2 is none", x.counted(0, 0, 2), Check.BAD);
    }
}
