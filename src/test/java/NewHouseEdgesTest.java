/** The sentences on the new house and its letters that name a boundary case: promises 18 to 21. */
public final class NewHouseEdgesTest {
    private static final Check check = new Check();

    public static void main(String[] args) {
        cellsOfItsOwn();
        roomOfItsFirstRoutine();
        itSeesItsOwnWrites();
        othersDoNotSeeThem();
        doneAtItsEnd();
        oneLetterForEachCell();
        whatWasWrittenLast();
        inTheOrderOfTheFirstWrites();
        numberedFromZeroOn();
        noLetterToItsOwnRoom();
        moreThanFortyWaiting();
        fortyBySingleLetters();
        fortyAreCells();
        moreThan2000InAll();
        tooManyLettersChangeNothing();
        aLaterActAfterTooManyLetters();
        failedSendsNoLetter();
        actsOfNone();
        minusOneIsAnAnswer();
        theCellBecomesWhatItSays();
        deliveredInAnyOrder();
        whatHasComeDoesNothingMore();
        deliverOfNone();
        settleByNumbers();
        settleOfNone();
        factsOfALetter();
        roomsAsWhenItWasSent();
        factsOfNone();
        check.end();
    }

    /** Module 0 in room 0 and module 1 in room 1; table 1 is another room's for routine 0. */
    private static PartedHouse twoRooms() {
        PartedHouse x = Check.house(2);
        x.room(1, 1);
        return x;
    }

    private static void cellsOfItsOwn() {
        check.sentence("THE NEW HOUSE: cells of its own (all 0 at first)");
        PartedHouse x = Check.house(2);
        Check.lines(x, 0, Check.WRITE, 0, 0, Check.WRITE, 1, 7);
        Check.lines(x, 1, Check.READ, 0, 0, Check.MORE, 1, 7);
        x.run(0, 5);
        check.due("cell(1, 0, 0)", x.cell(1, 0, 0), 0);
        check.due("cell(1, 1, 7)", x.cell(1, 1, 7), 0);
        check.due("an act reads them", x.act(1, 9), 0);
        x.act(0, 3);
        check.due("the new one's became other", x.cell(1, 0, 0), 3);
        check.due("the old one's stay", x.cell(0, 0, 0), 5);
        check.due("a run reads the old one's", x.run(1, 9), 10);
        check.due("an act reads the new one's", x.act(1, 9), 6);
    }

    private static void roomOfItsFirstRoutine() {
        check.sentence("An ACT run in it is of the ROOM of the MODULE of its first ROUTINE");
        PartedHouse x = Check.house(3);
        x.room(1, 1);
        x.room(2, 2);
        Check.lines(x, 0, Check.CALL, 1, 0, Check.CALL, 2, 0, Check.WRITE, 0, 0);
        Check.lines(x, 1, Check.WRITE, 1, 0, Check.WRITE, 0, 1);
        Check.lines(x, 2, Check.WRITE, 2, 0);
        x.act(0, 6);
        check.due("what is written of its room, by itself", x.cell(1, 0, 0), 6);
        check.due("what is written of its room, by one it calls", x.cell(1, 0, 1), 6);
        check.due("what they write of their own rooms", x.count(7), 2);
        check.row("from", l -> x.letter(l, 3), 0, 0);
        check.row("to", l -> x.letter(l, 4), 1, 2);
    }

    private static void itSeesItsOwnWrites() {
        check.sentence("(what it wrote itself in other ROOMS, too: it sees its own writes)");
        PartedHouse x = twoRooms();
        Check.lines(x, 0, Check.WRITE, 1, 0, Check.ADD, 5, 0, Check.WRITE, 1, 0, Check.SET, 0, 0, Check.READ, 1, 0);
        check.due("by READ", x.act(0, 8), 13);
        Check.lines(x, 0, Check.MORE, 1, 0);
        check.due("by MORE", x.act(0, 8), 26);
        Check.lines(x, 0, Check.LESS, 1, 0);
        check.due("by LESS", x.act(0, 8), 13);
        Check.lines(x, 0, Check.CALL, 1, 0);
        Check.lines(x, 1, Check.ADD, 1, 0, Check.MORE, 1, 0);
        check.due("by one it calls", x.act(0, 8), 27);
        check.due("the cell is as it was", x.cell(1, 1, 0), 0);
    }

    private static void othersDoNotSeeThem() {
        check.sentence("those to other ROOMS become LETTERS");
        PartedHouse x = twoRooms();
        Check.lines(x, 0, Check.WRITE, 1, 0);
        Check.lines(x, 1, Check.READ, 1, 0);
        x.act(0, 8);
        check.due("another act, of the room to which it goes", x.act(1, 4), 0);
        x.clear(0);
        Check.lines(x, 0, Check.READ, 1, 0);
        check.due("another act, of the room from which it goes", x.act(0, 4), 0);
        x.deliver(0);
        check.due("when it came", x.act(1, 4), 8);
        check.due("when it came, from another room", x.act(0, 4), 8);
    }

    private static void doneAtItsEnd() {
        check.sentence("WRITES to TABLES of its own ROOM are done at its end");
        PartedHouse x = twoRooms();
        Check.lines(x, 0, Check.WRITE, 0, 0, Check.ADD, -5, 0, Check.WRITE, 0, 0, Check.FAIL, 0, 0);
        check.due("an act that stands", x.act(0, 5), 0);
        check.due("its last write", x.cell(1, 0, 0), 0);
        check.due("another", x.act(0, 7), 2);
        check.due("its last write", x.cell(1, 0, 0), 2);
        check.due("one that FAILS behind its writes", x.act(0, 4), Check.FAILED);
        check.due("no write of it", x.cell(1, 0, 0), 2);
    }

    private static void oneLetterForEachCell() {
        check.sentence("one for each cell");
        PartedHouse x = twoRooms();
        Check.repeat(x, 0, 8, Check.WRITE, 1, 3);
        x.act(0, 8);
        check.due("of eight writes of one cell", x.count(6), 1);
        x.act(0, 8);
        check.due("of another act, though it says the same", x.count(6), 2);
        Check.lines(x, 0, Check.WRITE, 1, 4, Check.WRITE, 1, 3);
        x.act(0, 8);
        check.due("of two cells", x.count(6), 4);
        x.clear(0);
        Check.lines(x, 0, Check.WRITE, 1, 0);
        check.due("of a write that changes nothing", x.act(0, 0), 0);
        check.due("it is a letter, too", x.count(6), 5);
    }

    private static void whatWasWrittenLast() {
        check.sentence("with what was written there last");
        PartedHouse x = twoRooms();
        Check.lines(x, 0, Check.WRITE, 1, 3, Check.ADD, 1, 0, Check.WRITE, 1, 3, Check.ADD, 1, 0, Check.WRITE, 1, 4,
            Check.ADD, 1, 0, Check.WRITE, 1, 3, Check.ADD, 1, 0);
        x.act(0, 10);
        check.due("what the first says", x.letter(0, 2), 13);
        check.due("what the second says", x.letter(1, 2), 12);
        check.due("no third", x.count(6), 2);
    }

    private static void inTheOrderOfTheFirstWrites() {
        check.sentence("in the order in which those cells were first written");
        PartedHouse x = twoRooms();
        Check.lines(x, 0, Check.WRITE, 1, 7, Check.WRITE, 0, 5, Check.WRITE, 1, 2, Check.WRITE, 1, 7, Check.WRITE, 1, 0,
            Check.WRITE, 1, 2);
        x.act(0, 10);
        check.row("cell of a letter", l -> x.letter(l, 1), 7, 2, 0, Check.FAILED);
    }

    private static void numberedFromZeroOn() {
        check.sentence("numbered from 0 on over all");
        PartedHouse x = Check.house(3);
        x.room(1, 1);
        x.room(2, 2);
        Check.lines(x, 0, Check.WRITE, 1, 0, Check.WRITE, 2, 0);
        Check.lines(x, 1, Check.WRITE, 2, 1);
        check.due("none at first", x.letter(0, 0), Check.FAILED);
        x.act(0, 5);
        x.settle();
        x.act(1, 6);
        x.sync();
        x.act(0, 7);
        check.row("table", l -> x.letter(l, 0), 1, 2, 2, 1, 2, Check.FAILED);
        check.row("says", l -> x.letter(l, 2), 5, 5, 6, 7, 7, Check.FAILED);
    }

    private static void noLetterToItsOwnRoom() {
        check.sentence("WRITES to TABLES of its own ROOM .. those to other ROOMS become LETTERS");
        PartedHouse x = Check.house(3);
        x.room(0, 5);
        x.room(2, 5);
        Check.lines(x, 0, Check.WRITE, 0, 0, Check.WRITE, 1, 0, Check.WRITE, 2, 0);
        x.act(0, 4);
        check.due("one goes to another room", x.count(6), 1);
        check.row("cell 0 of a table", t -> x.cell(1, t, 0), 4, 0, 4);
    }

    /** Routine 0 sends 40 letters (tables 1 to 5 of room 1) and one more for each line that it is given. */
    private static PartedHouse sendsForty() {
        PartedHouse x = Check.house(8);
        for (int t = 1; t <= 5; t++) {
            x.room(t, 1);
            Check.lines(x, 0, Check.CALL, t, 0);
            for (int c = 0; c < 8; c++) {
                Check.lines(x, t, Check.WRITE, t, c);
            }
        }
        x.room(6, 1);
        Check.lines(x, 7, Check.WRITE, 7, 0, Check.WRITE, 6, 0);
        return x;
    }

    private static void moreThanFortyWaiting() {
        check.sentence("With more than 40 LETTERS WAITING .. the ACT FAILS");
        PartedHouse x = sendsForty();
        check.due("40 by one act", x.act(0, 1), 1);
        check.due("they wait", x.count(7), 40);
        check.due("one more", x.act(7, 2), Check.FAILED);
        x.deliver(0);
        check.due("one more, when one came", x.act(7, 2), 2);
        check.due("40 again", x.count(7), 40);
        check.due("one more again", x.act(7, 3), Check.FAILED);
        x.settle();
        Check.lines(x, 0, Check.WRITE, 6, 0);
        check.due("41 by one act", x.act(0, 1), Check.FAILED);
        check.due("none waits", x.count(7), 0);
        check.due("one alone", x.act(7, 3), 3);
    }

    private static void fortyBySingleLetters() {
        check.sentence("With more than 40 LETTERS WAITING .. the ACT FAILS");
        PartedHouse x = twoRooms();
        Check.lines(x, 0, Check.WRITE, 1, 0);
        for (int i = 1; i <= 40; i++) {
            check.due("letter " + i, x.act(0, i), i);
        }
        check.due("the 41st, to the same cell", x.act(0, 41), Check.FAILED);
        check.due("an act without letters", x.act(1, 5), 5);
        check.due("40 sent", x.count(6), 40);
        check.due("40 settled", x.settle(), 40);
        check.due("the 41st, when they came", x.act(0, 41), 41);
    }

    private static void fortyAreCells() {
        check.sentence("With more than 40 LETTERS WAITING .. the ACT FAILS");
        PartedHouse x = sendsForty();
        Check.repeat(x, 0, 2, Check.CALL, 1, 0);
        Check.lines(x, 0, Check.WRITE, 0, 0, Check.WRITE, 0, 1);
        check.due("58 writes of 40 cells of other rooms and 2 of its own", x.act(0, 1), 1);
        check.due("40 letters", x.count(6), 40);
    }

    /** 49 acts of 40 letters each, all come. */
    private static PartedHouse sent1960() {
        PartedHouse x = sendsForty();
        for (int i = 0; i < 49; i++) {
            x.act(0, i);
            x.settle();
        }
        return x;
    }

    private static void moreThan2000InAll() {
        check.sentence("With more than .. 2000 in all, the ACT FAILS");
        PartedHouse x = sent1960();
        check.due("1960 sent", x.count(6), 1960);
        check.due("up to 1961", x.act(7, 3), 3);
        x.settle();
        check.due("40 more would be 2001", x.act(0, 7), Check.FAILED);
        check.due("1961 sent", x.count(6), 1961);
        PartedHouse y = sent1960();
        check.due("40 more are 2000", y.act(0, 7), 7);
        check.due("2000 sent", y.count(6), 2000);
        check.due("the last one's number", y.letter(1999, 2), 7);
        check.due("no letter 2000", y.letter(2000, 2), Check.FAILED);
        y.settle();
        check.due("one more would be 2001", y.act(7, 8), Check.FAILED);
        check.due("the act beside stands in the old house alone", y.beside(7, 8), 0);
        check.due("what the new one answered", y.unlike(4), Check.FAILED);
        y.room(7, 1);
        check.due("it sends none", y.act(7, 9), 9);
        y.sync();
        y.room(7, 0);
        check.due("sync does not make room for more", y.act(7, 8), Check.FAILED);
    }

    private static void tooManyLettersChangeNothing() {
        check.sentence("With more than 40 LETTERS WAITING, or 2000 in all, the ACT FAILS");
        PartedHouse x = sendsForty();
        x.act(0, 1);
        x.act(7, 2);
        check.due("no cell of its own room", x.cell(1, 7, 0), 0);
        check.due("no letter sent", x.count(6), 40);
        check.due("none waits of it", x.count(7), 40);
        check.due("no act counted", x.count(5), 1);
        PartedHouse y = sent1960();
        y.act(0, 7);
        y.settle();
        y.act(7, 8);
        check.due("no cell, with 2000", y.cell(1, 7, 0), 0);
        check.due("no letter sent, with 2000", y.count(6), 2000);
        check.due("none waits of it, with 2000", y.count(7), 0);
        check.due("no act counted, with 2000", y.count(5), 50);
    }

    private static void aLaterActAfterTooManyLetters() {
        check.sentence("What it FAILED in changes no cell, sends no letter, counts nothing");
        PartedHouse x = sendsForty();
        Check.lines(x, 0, Check.WRITE, 6, 0, Check.WRITE, 0, 0);
        x.act(0, 1);
        x.act(6, 2);
        check.due("another act sends none of its letters", x.count(6), 0);
        check.due("nor does it write its cells", x.cell(1, 0, 0), 0);
    }

    private static void failedSendsNoLetter() {
        check.sentence("What it FAILED in .. sends no letter");
        PartedHouse x = twoRooms();
        Check.lines(x, 0, Check.WRITE, 1, 0, Check.FAIL, 0, 0, Check.ADD, -1, 0, Check.SKIP, 1, 0, Check.CALL, 0, 0);
        check.due("by FAIL", x.act(0, -1), Check.FAILED);
        check.due("none sent", x.count(6), 0);
        check.due("by a 9th open CALL", x.act(0, 9), Check.FAILED);
        check.due("none sent", x.count(6), 0);
        check.due("none waits", x.count(7), 0);
        check.due("neither", x.act(0, 8), 0);
        check.due("one sent", x.count(6), 1);
        PartedHouse y = Check.house(4);
        y.room(1, 1);
        Check.lines(y, 0, Check.WRITE, 1, 0, Check.CALL, 2, 0, Check.CALL, 2, 0);
        Check.repeat(y, 2, 16, Check.CALL, 3, 0);
        Check.repeat(y, 3, 16, Check.ADD, 1, 0);
        check.due("by a 301st line", y.act(0, 1), Check.FAILED);
        check.due("none sent", y.count(6), 0);
    }

    private static void actsOfNone() {
        check.sentence("AN ACT in THE NEW HOUSE: a. BAD");
        PartedHouse x = Check.house(2);
        check.each("act(routine, 5)", Check.BAD, r -> x.act(r, 5), Check.outside(0, 1));
        check.due("no act was done", x.count(5), 0);
        check.due("act(1, 5)", x.act(1, 5), 5);
    }

    private static void minusOneIsAnAnswer() {
        check.sentence("AN ACT in THE NEW HOUSE: a.");
        PartedHouse x = Check.house(1);
        Check.lines(x, 0, Check.WRITE, 0, 0);
        check.due("act(0, -1)", x.act(0, -1), -1);
        check.due("it counts", x.count(5), 1);
        check.due("and writes", x.cell(1, 0, 0), -1);
    }

    private static void theCellBecomesWhatItSays() {
        check.sentence("A WAITING LETTER is delivered as told: the cell becomes what it says.");
        PartedHouse x = twoRooms();
        Check.lines(x, 0, Check.WRITE, 1, 7);
        int[] numbers = {Check.LEAST, Check.GREATEST, 0, -1, Check.FAILED};
        for (int i = 0; i < numbers.length; i++) {
            x.act(0, numbers[i]);
            check.due("deliver(" + i + ")", x.deliver(i), 1);
            check.due("the cell", x.cell(1, 1, 7), numbers[i]);
            check.due("the old house's", x.cell(0, 1, 7), 0);
        }
        check.due("the cell ahead", x.cell(1, 1, 6), 0);
    }

    private static void deliveredInAnyOrder() {
        check.sentence("A WAITING LETTER is delivered as told");
        PartedHouse x = twoRooms();
        Check.lines(x, 0, Check.WRITE, 1, 0);
        for (int a = 10; a < 15; a++) {
            x.act(0, a);
        }
        int[] order = {2, 4, 0, 3, 1};
        for (int i = 0; i < 5; i++) {
            int came = order[i];
            check.due("deliver(" + came + ")", x.deliver(came), 1);
            check.due("the cell, though another came", x.cell(1, 1, 0), 10 + came);
            check.due("it waits no more", x.letter(came, 5), 0);
            check.due("so many wait", x.count(7), 4 - i);
        }
    }

    private static void whatHasComeDoesNothingMore() {
        check.sentence("It may come twice: what has come once does nothing more.");
        PartedHouse x = twoRooms();
        Check.lines(x, 0, Check.WRITE, 1, 0);
        x.act(0, 5);
        x.act(0, 6);
        check.due("once", x.deliver(0), 1);
        check.due("twice", x.deliver(0), 0);
        check.due("the other", x.deliver(1), 1);
        check.due("thrice", x.deliver(0), 0);
        check.due("the cell is as the other says", x.cell(1, 1, 0), 6);
        check.due("it stays known", x.letter(0, 2), 5);
        x.act(0, 7);
        x.settle();
        check.due("one that came by settle()", x.deliver(2), 0);
        x.act(0, 8);
        x.sync();
        check.due("one that waited at SYNC", x.deliver(3), 0);
        check.due("does nothing", x.cell(1, 1, 0), 0);
        check.due("count(6)", x.count(6), 4);
    }

    private static void deliverOfNone() {
        check.sentence("BAD: no such number.");
        PartedHouse x = twoRooms();
        check.each("none was sent, deliver(letter)", Check.BAD, x::deliver, Check.outside(0, -1));
        Check.lines(x, 0, Check.WRITE, 1, 0);
        x.act(0, 5);
        x.act(0, 6);
        check.each("two were sent, deliver(letter)", Check.BAD, x::deliver, Check.outside(0, 1));
        check.due("both wait", x.count(7), 2);
        check.row("deliver(letter)", x::deliver, 1, 1, Check.BAD);
    }

    private static void settleByNumbers() {
        check.sentence("All WAITING LETTERS are delivered, by their numbers: how many.");
        PartedHouse x = twoRooms();
        Check.lines(x, 0, Check.WRITE, 1, 0);
        for (int a = 1; a <= 4; a++) {
            x.act(0, a);
        }
        x.deliver(3);
        x.deliver(1);
        check.due("settle()", x.settle(), 2);
        check.due("the last by its number", x.cell(1, 1, 0), 3);
        check.due("none waits", x.count(7), 0);
        check.row("whether it waits", l -> x.letter(l, 5), 0, 0, 0, 0, Check.FAILED);
        check.due("rooms may change", x.room(0, 0), 0);
    }

    private static void settleOfNone() {
        check.sentence("All WAITING LETTERS are delivered, by their numbers: how many.");
        PartedHouse x = twoRooms();
        check.due("none was sent", x.settle(), 0);
        Check.lines(x, 0, Check.WRITE, 1, 0);
        x.act(0, 5);
        check.due("one", x.settle(), 1);
        check.due("it came", x.settle(), 0);
        x.act(0, 6);
        x.sync();
        check.due("none waits since sync", x.settle(), 0);
        check.due("so the cell is the old one's", x.cell(1, 1, 0), 0);
    }

    private static void factsOfALetter() {
        check.sentence("0 TABLE, 1 cell, 2 what it says, 3 the ROOM from which, 4 that to which it goes (..), "
            + "5 whether it waits");
        PartedHouse x = new PartedHouse();
        x.module(1);
        x.module(1);
        for (int t = 0; t < 16; t++) {
            x.table(t < 8 ? 0 : 1);
        }
        x.routine(0);
        x.routine(1);
        x.room(0, 5);
        x.room(1, 3);
        Check.lines(x, 0, Check.WRITE, 15, 7);
        Check.lines(x, 1, Check.WRITE, 0, 0);
        x.act(0, Check.LEAST);
        x.act(1, Check.GREATEST);
        check.row("of the last cell's", what -> x.letter(0, what), 15, 7, Check.LEAST, 5, 3, 1, Check.FAILED);
        check.row("of the first cell's", what -> x.letter(1, what), 0, 0, Check.GREATEST, 3, 5, 1, Check.FAILED);
        x.deliver(0);
        check.row("when it came", what -> x.letter(0, what), 15, 7, Check.LEAST, 5, 3, 0, Check.FAILED);
    }

    private static void roomsAsWhenItWasSent() {
        check.sentence("(as when it was sent)");
        PartedHouse x = twoRooms();
        Check.lines(x, 0, Check.WRITE, 1, 0);
        x.act(0, 5);
        x.settle();
        x.room(0, 4);
        x.room(1, 2);
        check.due("the first, from", x.letter(0, 3), 0);
        check.due("the first, to", x.letter(0, 4), 1);
        x.act(0, 6);
        check.due("the second, from", x.letter(1, 3), 4);
        check.due("the second, to", x.letter(1, 4), 2);
        check.due("the first, still from", x.letter(0, 3), 0);
    }

    private static void factsOfNone() {
        check.sentence("FAILED: BAD.");
        PartedHouse x = twoRooms();
        Check.lines(x, 0, Check.WRITE, 1, 0);
        check.each("none was sent, letter(letter, 0)", Check.FAILED, l -> x.letter(l, 0), Check.outside(0, -1));
        x.act(0, 5);
        x.act(0, 6);
        check.each("two were sent, letter(letter, 2)", Check.FAILED, l -> x.letter(l, 2), Check.outside(0, 1));
        check.each("two were sent, letter(letter, 5)", Check.FAILED, l -> x.letter(l, 5), Check.outside(0, 1));
        check.each("letter(0, what)", Check.FAILED, what -> x.letter(0, what), Check.outside(0, 5));
        check.row("letter(letter, 2)", l -> x.letter(l, 2), 5, 6, Check.FAILED);
    }
}
