/** The sentences on both houses, sync, images and counts that name a boundary case: promises 28 to 34. */
public final class BesideEdgesTest {
    private static final Check check = new Check();

    public static void main(String[] args) {
        bothFail();
        neitherFails();
        theOldOneFails();
        theNewOneFails();
        failedTheNumberIsNoFailure();
        bothRunsCount();
        besideOfNone();
        whichOneItWas();
        theFirstOneStays();
        noneUnlike();
        anotherWhat();
        sinceTheLatestSync();
        differInNone();
        differInAll();
        differWhileALetterWaits();
        howManyBecameOther();
        noLettersWait();
        syncedAtFirst();
        fourImages();
        restoreOfNone();
        otherInNumber();
        imageOfTheCells();
        imageOfTheLetters();
        imageOfLettersThatCameLater();
        imageOfTheCounts();
        imageOfTheSetsOfHomes();
        imageOfWhatWasRunBeside();
        imageOfTheRooms();
        imageOfNothingElse();
        anImageStays();
        anImageIsKeptAnew();
        imagesAreApart();
        anImageOfANewHouse();
        countsOfEach();
        countOfNone();
        the512thCall();
        memoryOfItsOwn();
        check.end();
    }

    /** Table 1 is in room 1; routine 0 writes cell 0 of its own table, routine 1 reads it, routine 2 sends a letter. */
    private static PartedHouse desk() {
        PartedHouse x = Check.house(2);
        x.routine(0);
        x.room(1, 1);
        Check.lines(x, 0, Check.WRITE, 0, 0);
        Check.lines(x, 1, Check.MORE, 0, 0, Check.FAIL, 0, 0);
        Check.lines(x, 2, Check.WRITE, 1, 0);
        return x;
    }

    private static void unlikes(PartedHouse x, String call, int... facts) {
        for (int what = 0; what < 5; what++) {
            check.due(call + ", unlike(" + what + ")", x.unlike(what), facts[what]);
        }
    }

    private static void noUnlike(PartedHouse x, String call) {
        unlikes(x, call, Check.NOT, Check.NOT, Check.NOT, Check.NOT, Check.NOT);
    }

    private static void bothFail() {
        check.sentence("ALIKE, if both FAIL");
        PartedHouse x = desk();
        check.due("at the same line", x.beside(1, -1), 1);
        x.run(0, 5);
        x.act(0, 7);
        check.due("with unlike cells", x.beside(1, -9), 1);
        check.due("both were run beside", x.count(8), 2);
        noUnlike(x, "both fail");
    }

    private static void neitherFails() {
        check.sentence("or neither and their answers are the same");
        PartedHouse x = desk();
        check.due("the same", x.beside(1, 4), 1);
        x.run(0, 1);
        check.due("one more in the old house", x.beside(1, 4), 0);
        x.act(0, 2);
        check.due("one more in the new house", x.beside(1, 4), 0);
        x.run(0, 2);
        check.due("the same again", x.beside(1, 4), 1);
        unlikes(x, "the first", 1, 1, 4, 5, 4);
    }

    private static void theOldOneFails() {
        check.sentence("ALIKE, if both FAIL, or neither");
        PartedHouse x = desk();
        x.run(0, -5);
        check.due("beside(1, 3)", x.beside(1, 3), 0);
        unlikes(x, "the old one fails", 0, 1, 3, Check.FAILED, 3);
        check.due("acts in the old house", x.count(4), 1);
        check.due("acts in the new house", x.count(5), 1);
    }

    private static void theNewOneFails() {
        check.sentence("ALIKE, if both FAIL, or neither");
        PartedHouse x = desk();
        x.act(0, -5);
        check.due("beside(1, 3)", x.beside(1, 3), 0);
        unlikes(x, "the new one fails", 0, 1, 3, 3, Check.FAILED);
        check.due("acts in the old house", x.count(4), 1);
        check.due("acts in the new house", x.count(5), 1);
        PartedHouse y = desk();
        for (int i = 0; i < 40; i++) {
            y.act(2, i);
        }
        check.due("by a 41st letter", y.beside(2, 6), 0);
        unlikes(y, "by a 41st letter", 0, 2, 6, 6, Check.FAILED);
    }

    private static void failedTheNumberIsNoFailure() {
        check.sentence("ALIKE, if both FAIL, or neither and their answers are the same");
        PartedHouse x = desk();
        x.clear(1);
        Check.lines(x, 1, Check.READ, 0, 0, Check.SKIP, 2, 0, Check.SET, -1, 0, Check.FAIL, 0, 0, Check.READ, 0, 1);
        Check.lines(x, 2, Check.WRITE, 0, 1);
        x.sync();
        x.beside(2, Check.FAILED);
        check.due("both answer the number FAILED", x.beside(1, 0), 1);
        x.act(0, 1);
        check.due("the old one answers it, the new one fails", x.beside(1, 0), 0);
        unlikes(x, "it is unlike", 2, 1, 0, Check.FAILED, Check.FAILED);
    }

    private static void bothRunsCount() {
        check.sentence("(Both runs count for what they are.)");
        PartedHouse x = desk();
        x.beside(2, 5);
        check.due("acts in the old house", x.count(4), 1);
        check.due("acts in the new house", x.count(5), 1);
        check.due("writes", x.counted(2, 0, 1), 1);
        check.due("price", x.price(), 1);
        check.due("letters", x.count(6), 1);
        check.due("the old cell", x.cell(0, 1, 0), 5);
        check.due("the new cell", x.cell(1, 1, 0), 0);
    }

    private static void besideOfNone() {
        check.sentence("BESIDE: 1 if ALIKE, else 0. BAD.");
        PartedHouse x = desk();
        check.each("beside(routine, 5)", Check.BAD, r -> x.beside(r, 5), Check.outside(0, 2));
        check.due("none was run beside", x.count(8), 0);
        check.due("beside(2, 5)", x.beside(2, 5), 1);
        check.due("one was", x.count(8), 1);
    }

    private static void whichOneItWas() {
        check.sentence("0 which one it was of those run BESIDE since SYNC (from 0 on)");
        for (int ahead = 0; ahead < 4; ahead++) {
            PartedHouse x = desk();
            for (int i = 0; i < ahead; i++) {
                x.beside(1, -i);
            }
            x.run(0, 1);
            x.act(1, 1);
            x.beside(1, 7);
            unlikes(x, ahead + " ahead of it", ahead, 1, 7, 8, 7);
        }
    }

    private static void theFirstOneStays() {
        check.sentence("FIRST UNLIKE: the first ACT that was run BESIDE and was not ALIKE");
        PartedHouse x = desk();
        x.run(0, 1);
        x.beside(1, Check.LEAST);
        noUnlike(x, "both fail");
        x.beside(1, Check.GREATEST - 1);
        unlikes(x, "the first", 1, 1, Check.GREATEST - 1, Check.GREATEST, Check.GREATEST - 1);
        x.beside(1, 5);
        x.beside(0, 5);
        x.beside(1, 5);
        unlikes(x, "still the first", 1, 1, Check.GREATEST - 1, Check.GREATEST, Check.GREATEST - 1);
    }

    private static void noneUnlike() {
        check.sentence("NOT: none");
        PartedHouse x = desk();
        noUnlike(x, "none was run beside");
        x.run(0, 1);
        x.act(0, 2);
        noUnlike(x, "acts alone are none");
        check.due("a letter on its way is none", x.beside(2, 5), 1);
        noUnlike(x, "all were alike");
    }

    private static void anotherWhat() {
        check.sentence("BAD: another what.");
        PartedHouse x = desk();
        check.each("none is unlike, unlike(what)", Check.BAD, x::unlike, Check.outside(0, 4));
        x.run(0, 1);
        x.beside(1, 7);
        check.each("one is unlike, unlike(what)", Check.BAD, x::unlike, Check.outside(0, 4));
    }

    private static void sinceTheLatestSync() {
        check.sentence("FIRST UNLIKE: .., since the latest SYNC");
        PartedHouse x = desk();
        x.run(0, 1);
        x.beside(1, 7);
        x.sync();
        noUnlike(x, "behind sync");
        check.due("none was run beside", x.count(8), 0);
        x.beside(1, 3);
        x.run(0, 9);
        x.beside(1, 4);
        unlikes(x, "the first behind sync", 1, 1, 4, 13, 5);
        check.due("two were run beside", x.count(8), 2);
    }

    private static void differInNone() {
        check.sentence("In how many cells the houses differ.");
        PartedHouse x = desk();
        check.due("at first", x.differ(), 0);
        x.beside(0, 5);
        check.due("both are as they were written", x.differ(), 0);
        x.run(0, 6);
        check.due("one is other", x.differ(), 1);
        x.run(0, 5);
        check.due("and again the same", x.differ(), 0);
    }

    /** Routine 0 writes all 128 cells that there can be. */
    private static PartedHouse writesAll() {
        PartedHouse x = new PartedHouse();
        x.module(1);
        x.routine(0);
        for (int r = 1; r <= 8; r++) {
            x.table(0);
            x.table(0);
            x.routine(0);
            Check.lines(x, 0, Check.CALL, r, 0);
            for (int c = 0; c < 16; c++) {
                Check.lines(x, r, Check.WRITE, 2 * r - 2 + c / 8, c % 8);
            }
        }
        return x;
    }

    private static void differInAll() {
        check.sentence("In how many cells the houses differ.");
        PartedHouse x = writesAll();
        x.run(0, 5);
        check.due("all cells", x.differ(), 128);
        check.due("all become other", x.sync(), 128);
        check.due("none", x.differ(), 0);
        x.act(0, 6);
        check.due("all cells of the new house", x.differ(), 128);
        check.due("the first one", x.cell(1, 0, 0), 6);
        check.due("the last one", x.cell(1, 15, 7), 6);
    }

    private static void differWhileALetterWaits() {
        check.sentence("In how many cells the houses differ.");
        PartedHouse x = desk();
        x.beside(2, 5);
        check.due("one is on its way", x.differ(), 1);
        x.settle();
        check.due("it came", x.differ(), 0);
    }

    private static void howManyBecameOther() {
        check.sentence("SYNC: how many cells became other.");
        PartedHouse x = desk();
        check.due("none", x.sync(), 0);
        x.run(0, 5);
        x.run(2, 6);
        check.due("two", x.sync(), 2);
        check.due("as the old one's", x.cell(1, 0, 0), 5);
        check.due("as the old one's, too", x.cell(1, 1, 0), 6);
        check.due("none any more", x.sync(), 0);
        x.act(0, 9);
        check.due("one", x.sync(), 1);
        check.due("the old one's stays", x.cell(0, 0, 0), 5);
        check.due("the new one's becomes it again", x.cell(1, 0, 0), 5);
    }

    private static void noLettersWait() {
        check.sentence("SYNC: THE NEW HOUSE gets the cells of the old one, no LETTERS wait.");
        PartedHouse x = desk();
        x.act(2, 5);
        x.act(2, 6);
        check.due("letters alone make no cell other", x.sync(), 0);
        check.due("none waits", x.count(7), 0);
        check.row("whether it waits", l -> x.letter(l, 5), 0, 0, Check.FAILED);
        check.due("they stay sent", x.count(6), 2);
        check.due("nothing is left to settle", x.settle(), 0);
        check.due("one order", x.orders(), 1);
        check.due("the cell", x.cell(1, 1, 0), 0);
        check.due("the counts of acts stay", x.count(5), 2);
        x.act(2, 7);
        check.due("a new one waits", x.letter(2, 5), 1);
        check.due("alone", x.settle(), 1);
        check.due("the cell then", x.cell(1, 1, 0), 7);
    }

    private static void syncedAtFirst() {
        check.sentence("No modules, tables, routines, laws; SYNCED.");
        PartedHouse x = desk();
        check.due("differ()", x.differ(), 0);
        check.due("count(8)", x.count(8), 0);
        noUnlike(x, "at first");
        check.due("sync()", x.sync(), 0);
    }

    private static void fourImages() {
        check.sentence("IMAGES 0 .. 3");
        PartedHouse x = desk();
        check.each("image(i)", Check.BAD, x::image, Check.outside(0, 3));
        check.each("restore(i)", Check.BAD, x::restore, Check.outside(0, 3));
        check.row("image(i)", x::image, 1, 1, 1, 1, Check.BAD);
        check.row("restore(i)", x::restore, 1, 1, 1, 1, Check.BAD);
    }

    private static void restoreOfNone() {
        check.sentence("NOT: there is none");
        PartedHouse x = desk();
        x.run(0, 5);
        check.each("restore(i)", Check.NOT, x::restore, 0, 1, 2, 3);
        x.image(2);
        check.each("of another place", Check.NOT, x::restore, 0, 1, 3);
        check.due("of the place", x.restore(2), 1);
        check.due("the cell stays all along", x.cell(0, 0, 0), 5);
    }

    private static void otherInNumber() {
        check.sentence("NOT: .. MODULES, TABLES are other in number than then");
        PartedHouse x = desk();
        x.image(0);
        x.run(0, 5);
        x.module(1);
        check.due("a module more", x.restore(0), Check.NOT);
        check.due("the cell stays", x.cell(0, 0, 0), 5);
        x.image(1);
        x.run(0, 6);
        x.table(2);
        check.due("a table more", x.restore(1), Check.NOT);
        check.due("a module and a table more", x.restore(0), Check.NOT);
        check.due("the cell stays then, too", x.cell(0, 0, 0), 6);
        x.image(2);
        x.routine(2);
        x.law(0);
        Check.lines(x, 0, Check.ADD, 1, 0);
        x.run(0, 7);
        check.due("routines, laws and lines may be more", x.restore(2), 1);
        check.due("the cell as then", x.cell(0, 0, 0), 6);
        x.image(0);
        check.due("kept anew with as many", x.restore(0), 1);
    }

    private static void imageOfTheCells() {
        check.sentence("IMAGES .. of both houses: cells");
        PartedHouse x = writesAll();
        x.run(0, 5);
        x.act(0, 6);
        x.image(0);
        x.run(0, 7);
        x.act(0, 7);
        x.restore(0);
        check.due("all differ as then", x.differ(), 128);
        check.due("the old one's first", x.cell(0, 0, 0), 5);
        check.due("the old one's last", x.cell(0, 15, 7), 5);
        check.due("the new one's first", x.cell(1, 0, 0), 6);
        check.due("the new one's last", x.cell(1, 15, 7), 6);
    }

    private static void imageOfTheLetters() {
        check.sentence("LETTERS (those that were sent then, WAITING or come)");
        PartedHouse x = desk();
        x.act(2, 5);
        x.act(2, 6);
        x.act(2, 7);
        x.deliver(1);
        x.image(0);
        x.settle();
        x.act(2, 8);
        x.restore(0);
        check.due("sent", x.count(6), 3);
        check.due("waiting", x.count(7), 2);
        check.row("whether it waits", l -> x.letter(l, 5), 1, 0, 1, Check.FAILED);
        check.row("what it says", l -> x.letter(l, 2), 5, 6, 7, Check.FAILED);
        check.due("one that was sent later", x.deliver(3), Check.BAD);
        check.due("one that came", x.deliver(1), 0);
        check.due("one that waits", x.deliver(0), 1);
        check.due("the cell", x.cell(1, 1, 0), 5);
        check.due("the other one", x.settle(), 1);
        x.act(2, 9);
        check.due("numbers go on as then", x.letter(3, 2), 9);
    }

    private static void imageOfLettersThatCameLater() {
        check.sentence("LETTERS (those that were sent then, WAITING or come)");
        PartedHouse x = desk();
        x.table(1);
        x.routine(0);
        Check.lines(x, 3, Check.WRITE, 2, 7);
        x.image(0);
        for (int i = 0; i < 120; i++) {
            x.act(i % 2 + 2, i);
            x.deliver(i);
        }
        x.act(2, 120);
        x.image(1);
        x.restore(0);
        check.due("none was sent", x.count(6), 0);
        check.due("none waits", x.count(7), 0);
        for (int i = 0; i < 3; i++) {
            x.act(3, -1);
            check.due("another letter " + i, x.letter(i, 2), -1);
            check.due("its table", x.letter(i, 0), 2);
        }
        x.restore(1);
        check.due("all were sent", x.count(6), 121);
        for (int i = 0; i < 120; i += 17) {
            check.due("what letter " + i + " says", x.letter(i, 2), i);
            check.due("its table", x.letter(i, 0), i % 2 + 1);
            check.due("its cell", x.letter(i, 1), 7 * (i % 2));
            check.due("its room", x.letter(i, 4), 1);
            check.due("it came", x.letter(i, 5), 0);
        }
        check.due("the last one waits", x.letter(120, 5), 1);
    }

    private static void imageOfTheCounts() {
        check.sentence("all counts of ACTS");
        PartedHouse x = desk();
        x.routine(1);
        Check.lines(x, 3, Check.CALL, 2, 0, Check.READ, 0, 0);
        x.run(3, 1);
        x.act(0, 1);
        x.act(0, 1);
        x.image(0);
        x.run(3, 1);
        x.act(0, 1);
        x.restore(0);
        check.due("acts in the old house", x.count(4), 1);
        check.due("acts in the new house", x.count(5), 2);
        check.due("calls", x.counted(0, 1, 0), 1);
        check.due("reads", x.counted(1, 1, 0), 1);
        check.due("writes", x.counted(2, 0, 1), 1);
        check.due("price", x.price(), 3);
    }

    private static void imageOfTheSetsOfHomes() {
        check.sentence("all counts of ACTS");
        PartedHouse x = Check.house(4);
        x.weight(2, 0);
        for (int m = 0; m < 4; m++) {
            x.room(m, m);
        }
        Check.lines(x, 0, Check.WRITE, 0, 0, Check.WRITE, 1, 0);
        Check.lines(x, 1, Check.WRITE, 1, 0, Check.WRITE, 2, 0, Check.WRITE, 3, 0);
        x.image(0);
        x.run(0, 1);
        x.image(1);
        check.due("of two homes", x.price(), 1);
        x.restore(0);
        x.run(1, 1);
        x.image(2);
        check.due("of three homes", x.price(), 2);
        x.restore(1);
        check.due("of two homes again", x.price(), 1);
        x.run(1, 1);
        check.due("of both", x.price(), 3);
        x.restore(2);
        check.due("of three homes again", x.price(), 2);
        x.restore(0);
        check.due("of none", x.price(), 0);
    }

    private static void imageOfWhatWasRunBeside() {
        check.sentence("what was run BESIDE");
        PartedHouse x = desk();
        x.image(0);
        x.beside(1, 3);
        x.run(0, 1);
        x.beside(1, 4);
        x.image(1);
        x.sync();
        x.beside(1, 3);
        x.beside(1, 3);
        x.run(0, 6);
        x.beside(1, 9);
        unlikes(x, "another first one", 2, 1, 9, 15, 10);
        x.restore(1);
        check.due("two were run beside", x.count(8), 2);
        unlikes(x, "the first one as then", 1, 1, 4, 5, 4);
        x.restore(0);
        check.due("none was run beside", x.count(8), 0);
        noUnlike(x, "as it was at first");
    }

    private static void imageOfTheRooms() {
        check.sentence("IMAGES .. of both houses: .., ROOMS");
        PartedHouse x = Check.house(10);
        for (int m = 0; m < 10; m++) {
            x.room(m, 5 - m % 6);
        }
        x.image(0);
        for (int m = 0; m < 10; m++) {
            x.room(m, 3);
        }
        x.restore(0);
        check.row("room as then", m -> x.room(m, 0), 5, 4, 3, 2, 1, 0, 5, 4, 3, 2);
    }

    private static void imageOfNothingElse() {
        check.sentence("Both houses become as the IMAGE has them");
        PartedHouse x = desk();
        x.image(0);
        x.weight(3, 7);
        x.tell(0, 1, 2);
        x.cut(2, 2);
        x.law(1);
        x.term(0, 0, 0, 1);
        x.clear(0);
        x.routine(1);
        x.restore(0);
        check.due("weights stay", x.weight(3, 1), 7);
        check.due("what was told stays", x.tell(0, 1, 0), 2);
        check.due("the latest cut stays", x.put(1), 1);
        check.due("laws stay", x.count(3), 1);
        check.due("terms stay", x.term(0, 0, 0, 1), 2);
        check.due("lines stay away", x.clear(0), 0);
        check.due("routines stay", x.count(2), 4);
        check.due("ties of the text stay away", x.tied(2, 0, 0), 0);
    }

    private static void anImageStays() {
        check.sentence("Both houses become as the IMAGE has them: 1.");
        PartedHouse x = desk();
        x.beside(2, 5);
        x.image(0);
        for (int i = 0; i < 3; i++) {
            x.run(0, 9);
            x.settle();
            x.act(2, 9);
            x.sync();
            x.room(1, 4);
            check.due("restore(0)", x.restore(0), 1);
            check.due("the old cell", x.cell(0, 0, 0), 0);
            check.due("the letter waits", x.count(7), 1);
            check.due("what it says", x.letter(0, 2), 5);
            check.due("run beside", x.count(8), 1);
            check.due("acts in the old house", x.count(4), 1);
            check.due("its room", x.letter(0, 4), 1);
        }
    }

    private static void anImageIsKeptAnew() {
        check.sentence("An IMAGE is kept in place i: 1.");
        PartedHouse x = desk();
        for (int a = 1; a <= 3; a++) {
            x.run(0, a);
            check.due("image(1)", x.image(1), 1);
        }
        x.run(0, 4);
        x.restore(1);
        check.due("the latest one", x.cell(0, 0, 0), 3);
        check.due("its acts", x.count(4), 3);
    }

    private static void imagesAreApart() {
        check.sentence("IMAGES 0 .. 3 of both houses");
        PartedHouse x = desk();
        for (int i = 0; i < 4; i++) {
            x.run(0, 10 + i);
            x.act(2, 20 + i);
            x.image(i);
        }
        int[] order = {2, 0, 3, 1, 0};
        for (int i : order) {
            x.restore(i);
            check.due("the cell of " + i, x.cell(0, 0, 0), 10 + i);
            check.due("the acts of " + i, x.count(4), i + 1);
            check.due("the letters of " + i, x.count(6), i + 1);
            x.run(0, 99);
            x.settle();
        }
    }

    private static void anImageOfANewHouse() {
        check.sentence("An IMAGE is kept in place i: 1.");
        PartedHouse x = new PartedHouse();
        check.due("without modules", x.image(0), 1);
        check.due("restored", x.restore(0), 1);
        x.law(0);
        check.due("with a law more", x.restore(0), 1);
        x.module(1);
        check.due("with a module more", x.restore(0), Check.NOT);
    }

    private static void countsOfEach() {
        check.sentence("How many: 0 MODULES, 1 TABLES, 2 ROUTINES, 3 LAWS, 4 ACTS .., 8 run BESIDE since SYNC");
        PartedHouse x = desk();
        check.row("at first", x::count, 2, 2, 3, 0, 0, 0, 0, 0, 0, Check.BAD);
        x.module(1);
        x.table(0);
        x.table(0);
        x.routine(0);
        x.law(0);
        x.run(0, 1);
        x.run(1, -2);
        x.act(2, 1);
        x.act(2, 1);
        x.act(1, -2);
        x.deliver(0);
        x.beside(2, 1);
        x.beside(1, -2);
        check.row("then", x::count, 3, 4, 4, 1, 2, 3, 3, 2, 2, Check.BAD);
        x.sync();
        check.row("behind sync", x::count, 3, 4, 4, 1, 2, 3, 3, 0, 0, Check.BAD);
    }

    private static void countOfNone() {
        check.sentence("How many: 0 MODULES .. 8 run BESIDE since SYNC. BAD.");
        PartedHouse x = desk();
        check.each("count(what)", Check.BAD, x::count, Check.outside(0, 8));
    }

    private static void the512thCall() {
        check.sentence("An object is used for at most 512 calls after it has been made");
        PartedHouse x = new PartedHouse();
        x.module(1);
        x.table(0);
        x.routine(0);
        x.line(0, Check.MORE, 0, 0);
        x.line(0, Check.WRITE, 0, 0);
        for (int call = 6; call <= 511; call++) {
            check.due("call " + call, x.run(0, 1), call - 5);
        }
        check.due("call 512", x.counted(2, 0, 0), 506);
        PartedHouse y = new PartedHouse();
        for (int call = 1; call <= 511; call++) {
            y.module(0);
        }
        check.due("call 512, the first that is not refused", y.module(1), 0);
    }

    private static void memoryOfItsOwn() {
        check.sentence("All memory is the class's own.");
        PartedHouse x = desk();
        PartedHouse y = desk();
        x.weight(0, 9);
        x.tell(0, 1, 2);
        x.cut(2, 2);
        x.law(0);
        x.beside(2, 5);
        x.image(0);
        check.row("another object's counts", y::count, 2, 2, 3, 0, 0, 0, 0, 0, 0);
        check.due("its weights", y.weight(0, 1), 1);
        check.due("what it was told", y.tell(0, 1, 0), 0);
        check.due("its cut", y.put(0), Check.BAD);
        check.due("its cells", y.cell(0, 1, 0), 0);
        check.due("its images", y.restore(0), Check.NOT);
    }
}
