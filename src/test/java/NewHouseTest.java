/** Promises 18 to 21: acts in the new house, and letters. */
public final class NewHouseTest {
    private static final Check check = new Check();

    public static void main(String[] args) {
        ownRoom();
        lettersOfAnAct();
        ownWritesAreSeen();
        roomOfTheFirstRoutine();
        delivering();
        settling();
        mostWaiting();
        mostInAll();
        failedSendsNothing();
        check.end();
    }

    private static void ownRoom() {
        PartedHouse x = Check.house(3);
        Check.lines(x, 0, Check.WRITE, 0, 0, Check.ADD, 1, 0, Check.WRITE, 1, 7, Check.ADD, 1, 0, Check.WRITE, 2, 1);
        x.room(0, 4);
        x.room(1, 4);
        check.due("act(0, 5)", x.act(0, 5), 7);
        check.due("own table", x.cell(1, 0, 0), 5);
        check.due("a table of the same room", x.cell(1, 1, 7), 6);
        check.due("another room's", x.cell(1, 2, 1), 0);
        check.due("the old house stays", x.cell(0, 0, 0), 0);
        check.due("one letter", x.count(6), 1);
        check.due("waiting", x.count(7), 1);
        check.due("count(5)", x.count(5), 1);
        check.due("count(4)", x.count(4), 0);
        check.due("counted", x.counted(2, 0, 0), 0);
        int[] facts = {2, 1, 7, 4, 0, 1};
        for (int what = 0; what < 6; what++) {
            check.due("letter(0, " + what + ")", x.letter(0, what), facts[what]);
        }
        check.due("letter(0, 6)", x.letter(0, 6), Check.FAILED);
        check.due("letter(0, -1)", x.letter(0, -1), Check.FAILED);
        check.due("letter(1, 0)", x.letter(1, 0), Check.FAILED);
        check.due("letter(-1, 0)", x.letter(-1, 0), Check.FAILED);
        check.due("act(3, 0)", x.act(3, 0), Check.BAD);
        check.due("act(-1, 0)", x.act(-1, 0), Check.BAD);
        x.settle();
        x.room(2, 3);
        check.due("a letter's rooms are as when it was sent", x.letter(0, 4), 0);
        check.due("it came", x.letter(0, 5), 0);
    }

    private static void lettersOfAnAct() {
        PartedHouse x = Check.house(2);
        x.room(1, 1);
        Check.lines(x, 0, Check.WRITE, 1, 5, Check.ADD, 1, 0, Check.WRITE, 1, 2, Check.ADD, 1, 0, Check.WRITE, 1, 5,
            Check.WRITE, 0, 0, Check.WRITE, 1, 0);
        check.due("act(0, 10)", x.act(0, 10), 12);
        check.due("three letters", x.count(6), 3);
        int[] cells = {5, 2, 0};
        int[] says = {12, 11, 12};
        for (int letter = 0; letter < 3; letter++) {
            check.due("cell of " + letter, x.letter(letter, 1), cells[letter]);
            check.due("says " + letter, x.letter(letter, 2), says[letter]);
        }
        x.act(0, 20);
        check.due("numbers go on", x.letter(3, 2), 22);
        check.due("count(6)", x.count(6), 6);
    }

    private static void ownWritesAreSeen() {
        PartedHouse x = Check.house(2);
        x.room(1, 1);
        Check.lines(x, 0, Check.WRITE, 1, 0, Check.SET, 0, 0, Check.MORE, 1, 0);
        Check.lines(x, 1, Check.READ, 1, 0);
        check.due("it sees its own write", x.act(0, 8), 8);
        check.due("another does not", x.act(1, 3), 0);
        x.deliver(0);
        check.due("another does, when it came", x.act(1, 3), 8);
        Check.lines(x, 1, Check.SET, 4, 0, Check.WRITE, 0, 0);
        x.clear(0);
        Check.lines(x, 0, Check.READ, 1, 0);
        check.due("reads go between rooms", x.act(0, 1), 8);
    }

    private static void roomOfTheFirstRoutine() {
        PartedHouse x = Check.house(2);
        x.room(1, 2);
        Check.lines(x, 0, Check.CALL, 1, 0, Check.WRITE, 0, 0);
        Check.lines(x, 1, Check.WRITE, 1, 0);
        x.act(0, 6);
        check.due("the called one's own table is another room's", x.count(7), 1);
        check.due("the first one's table is written", x.cell(1, 0, 0), 6);
        check.due("from the first one's room", x.letter(0, 3), 0);
        check.due("to that of the table", x.letter(0, 4), 2);
        x.act(1, 9);
        check.due("begun there, it is its own", x.cell(1, 1, 0), 9);
        check.due("without a letter", x.count(6), 1);
    }

    private static void delivering() {
        PartedHouse x = Check.house(2);
        x.room(1, 1);
        Check.lines(x, 0, Check.WRITE, 1, 0);
        x.act(0, 1);
        x.act(0, 2);
        check.due("deliver(2)", x.deliver(2), Check.BAD);
        check.due("deliver(-1)", x.deliver(-1), Check.BAD);
        check.due("deliver(1)", x.deliver(1), 1);
        check.due("the cell is as it says", x.cell(1, 1, 0), 2);
        check.due("one waits", x.count(7), 1);
        check.due("letter(1, 5)", x.letter(1, 5), 0);
        check.due("letter(0, 5)", x.letter(0, 5), 1);
        check.due("deliver(0)", x.deliver(0), 1);
        check.due("the older one came later", x.cell(1, 1, 0), 1);
        check.due("deliver(1) twice", x.deliver(1), 0);
        check.due("what has come does nothing more", x.cell(1, 1, 0), 1);
        check.due("count(6)", x.count(6), 2);
        check.due("count(7)", x.count(7), 0);
        x.act(0, 3);
        x.sync();
        check.due("after sync it waits no more", x.deliver(2), 0);
        check.due("so its cell stays", x.cell(1, 1, 0), 0);
        check.due("letters stay known", x.letter(2, 2), 3);
        check.due("count(6) after sync", x.count(6), 3);
        x.act(0, 4);
        check.due("numbers go on after sync", x.letter(3, 2), 4);
    }

    private static void settling() {
        PartedHouse x = Check.house(2);
        x.room(1, 1);
        Check.lines(x, 0, Check.WRITE, 1, 0);
        for (int a = 1; a <= 5; a++) {
            x.act(0, a);
        }
        x.deliver(4);
        check.due("settle()", x.settle(), 4);
        check.due("by their numbers", x.cell(1, 1, 0), 4);
        check.due("settle() of none", x.settle(), 0);
        check.due("none waits", x.count(7), 0);
        check.due("deliver after settle", x.deliver(0), 0);
    }

    /** Routine 0 writes 40 cells of other rooms (tables 1 to 5), routine 6 one of its own, routine 7 one of another. */
    private static PartedHouse forty() {
        PartedHouse x = Check.house(8);
        for (int t = 1; t <= 5; t++) {
            x.room(t, 1);
            Check.lines(x, 0, Check.CALL, t, 0);
            for (int c = 0; c < 8; c++) {
                Check.lines(x, t, Check.WRITE, t, c);
            }
        }
        Check.lines(x, 6, Check.WRITE, 6, 0);
        Check.lines(x, 7, Check.WRITE, 7, 1, Check.WRITE, 1, 0);
        return x;
    }

    private static void mostWaiting() {
        PartedHouse x = forty();
        check.due("40 letters", x.act(0, 1), 1);
        check.due("count(7)", x.count(7), 40);
        check.due("an act without letters", x.act(6, 2), 2);
        check.due("the 41st", x.act(7, 3), Check.FAILED);
        check.due("it writes nothing", x.cell(1, 7, 1), 0);
        check.due("count(5)", x.count(5), 2);
        x.deliver(11);
        check.due("the 40th again", x.act(7, 3), 3);
        check.due("it writes its own", x.cell(1, 7, 1), 3);
        check.due("its number", x.letter(40, 2), 3);
        check.due("one that came, while 40 wait", x.deliver(11), 0);
        check.due("it does not wait, while 40 do", x.letter(11, 5), 0);
        check.due("BIG", x.orders(), Check.BIG);
        x.settle();
        Check.lines(x, 0, Check.WRITE, 7, 7);
        check.due("40 letters and a write of its own", x.act(0, 5), 5);
        x.settle();
        x.room(7, 1);
        check.due("41 letters of one act", x.act(0, 5), Check.FAILED);
        check.due("sends none", x.count(7), 0);
        check.due("writes none", x.cell(1, 7, 7), 5);
    }

    private static void mostInAll() {
        PartedHouse x = forty();
        for (int i = 0; i < 49; i++) {
            x.act(0, i);
            x.settle();
        }
        check.due("count(6)", x.count(6), 1960);
        x.image(0);
        check.due("2000 in all", x.act(0, 7), 7);
        check.due("count(6) at 2000", x.count(6), 2000);
        x.settle();
        check.due("2001 in all", x.act(7, 8), Check.FAILED);
        check.due("an act without letters", x.act(6, 9), 9);
        check.due("the last one", x.letter(1999, 2), 7);
        check.due("no more", x.letter(2000, 2), Check.FAILED);
        x.image(1);
        x.restore(0);
        check.due("letters sent later are gone", x.letter(1960, 2), Check.FAILED);
        check.due("and can be sent again", x.act(7, 8), 8);
        check.due("with the same numbers", x.letter(1960, 2), 8);
        x.restore(1);
        check.due("or had again", x.letter(1960, 2), 7);
    }

    private static void failedSendsNothing() {
        PartedHouse x = Check.house(2);
        x.room(1, 1);
        Check.lines(x, 0, Check.WRITE, 1, 0, Check.WRITE, 0, 0, Check.ADD, -1, 0, Check.FAIL, 0, 0);
        check.due("act(0, 0)", x.act(0, 0), Check.FAILED);
        check.due("no letter", x.count(6), 0);
        check.due("no act", x.count(5), 0);
        check.due("act(0, 1)", x.act(0, 1), 0);
        check.due("a letter", x.count(6), 1);
    }
}
