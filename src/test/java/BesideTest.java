/** Promises 28 to 34: both houses run beside each other, sync, images and what is counted. */
public final class BesideTest {
    private static final Check check = new Check();

    public static void main(String[] args) {
        alike();
        failedIsNoNumber();
        firstUnlike();
        besideFailsInOne();
        differing();
        syncing();
        images();
        imagesKeepCounts();
        imagesRefused();
        counting();
        check.end();
    }

    private static void alike() {
        PartedHouse x = Check.house(2);
        Check.lines(x, 0, Check.MORE, 1, 0, Check.WRITE, 1, 0);
        check.due("beside(2, 0)", x.beside(2, 0), Check.BAD);
        check.due("beside(-1, 0)", x.beside(-1, 0), Check.BAD);
        check.due("beside(0, 3)", x.beside(0, 3), 1);
        check.due("old cell", x.cell(0, 1, 0), 3);
        check.due("new cell", x.cell(1, 1, 0), 3);
        check.due("count(4)", x.count(4), 1);
        check.due("count(5)", x.count(5), 1);
        check.due("count(8)", x.count(8), 1);
        check.due("counted", x.counted(2, 0, 1), 1);
        Check.lines(x, 1, Check.SET, -1, 0, Check.FAIL, 0, 0);
        check.due("both fail", x.beside(1, 0), 1);
        check.due("it was run", x.count(8), 2);
        check.due("but counts nothing", x.count(4), 1);
        check.due("none is unlike", x.unlike(0), Check.NOT);
    }

    private static void failedIsNoNumber() {
        PartedHouse x = Check.house(2);
        Check.lines(x, 1, Check.READ, 0, 0, Check.SKIP, 2, 0, Check.SET, -1, 0, Check.FAIL, 0, 0);
        Check.lines(x, 0, Check.WRITE, 0, 1);
        x.beside(0, Check.FAILED);
        x.clear(0);
        Check.lines(x, 0, Check.WRITE, 0, 0);
        x.act(0, 1);
        Check.lines(x, 1, Check.READ, 0, 1);
        check.due("the old one answers the number FAILED, the new one fails", x.beside(1, 0), 0);
        check.due("old answer", x.unlike(3), Check.FAILED);
        check.due("new answer", x.unlike(4), Check.FAILED);
    }

    private static void firstUnlike() {
        PartedHouse x = Check.house(2);
        Check.lines(x, 0, Check.WRITE, 0, 0);
        Check.lines(x, 1, Check.MORE, 0, 0);
        x.beside(1, 1);
        x.run(0, 6);
        check.due("unlike(0) of none", x.unlike(0), Check.NOT);
        check.due("unlike(-1)", x.unlike(-1), Check.BAD);
        check.due("unlike(5)", x.unlike(5), Check.BAD);
        check.due("beside(1, 2)", x.beside(1, 2), 0);
        check.due("beside(1, 9)", x.beside(1, 9), 0);
        int[] facts = {1, 1, 2, 8, 2};
        for (int what = 0; what < 5; what++) {
            check.due("unlike(" + what + ")", x.unlike(what), facts[what]);
        }
        check.due("unlike(5) of one", x.unlike(5), Check.BAD);
        check.due("beside(0, 3) makes them alike", x.beside(0, 3), 1);
        check.due("beside(1, 3)", x.beside(1, 3), 1);
        check.due("the first one stays", x.unlike(0), 1);
        x.run(0, 1);
        x.sync();
        check.due("gone with sync", x.unlike(0), Check.NOT);
        check.due("count(8) anew", x.count(8), 0);
        x.run(0, 2);
        x.beside(1, 0);
        check.due("numbered anew", x.unlike(0), 0);
        check.due("its old answer", x.unlike(3), 2);
        check.due("its new answer", x.unlike(4), 1);
    }

    private static void besideFailsInOne() {
        PartedHouse x = Check.house(2);
        Check.lines(x, 0, Check.LESS, 1, 0, Check.FAIL, 0, 0, Check.WRITE, 0, 0);
        Check.lines(x, 1, Check.WRITE, 1, 0);
        x.run(1, 5);
        check.due("the old one fails", x.beside(0, 3), 0);
        check.due("unlike(3)", x.unlike(3), Check.FAILED);
        check.due("unlike(4)", x.unlike(4), 3);
        check.due("the new one's act stands", x.cell(1, 0, 0), 3);
        check.due("the old one's does not", x.cell(0, 0, 0), 0);
        check.due("count(4)", x.count(4), 1);
        check.due("count(5)", x.count(5), 1);
        x.sync();
        x.act(1, 9);
        check.due("the new one fails", x.beside(0, 7), 0);
        check.due("unlike(3), new fails", x.unlike(3), 2);
        check.due("unlike(4), new fails", x.unlike(4), Check.FAILED);
        check.due("the old one's stands", x.cell(0, 0, 0), 2);
    }

    private static void differing() {
        PartedHouse x = Check.house(2);
        Check.lines(x, 0, Check.WRITE, 0, 0, Check.WRITE, 1, 7);
        x.room(1, 1);
        x.run(0, 4);
        check.due("two differ", x.differ(), 2);
        x.act(0, 4);
        check.due("one is on its way", x.differ(), 1);
        x.settle();
        check.due("none", x.differ(), 0);
    }

    private static void syncing() {
        PartedHouse x = Check.house(2);
        Check.lines(x, 0, Check.WRITE, 0, 0, Check.WRITE, 1, 7);
        x.room(1, 1);
        x.run(0, 4);
        x.act(0, 3);
        check.due("sync()", x.sync(), 2);
        check.due("new cells as the old", x.cell(1, 1, 7), 4);
        check.due("own cell as the old", x.cell(1, 0, 0), 4);
        check.due("none waits", x.count(7), 0);
        check.due("letter(0, 5)", x.letter(0, 5), 0);
        check.due("sent stays", x.count(6), 1);
        check.due("settle()", x.settle(), 0);
        check.due("sync() again", x.sync(), 0);
        check.due("acts stay counted", x.count(4), 1);
        check.due("acts of the new house, too", x.count(5), 1);
        check.due("rooms stay", x.room(1, 0), 1);
    }

    private static void images() {
        PartedHouse x = Check.house(2);
        Check.lines(x, 0, Check.WRITE, 0, 0, Check.WRITE, 1, 7);
        Check.lines(x, 1, Check.READ, 0, 0);
        x.room(1, 1);
        x.run(0, 4);
        x.act(0, 3);
        x.act(0, 5);
        x.deliver(0);
        x.beside(1, 0);
        check.due("image(3)", x.image(3), 1);
        x.settle();
        x.room(1, 2);
        x.room(0, 5);
        x.run(0, 9);
        x.act(0, 8);
        x.sync();
        x.weight(0, 7);
        x.tell(0, 1, 2);
        x.cut(2, 2);
        x.law(0);
        x.clear(1);
        check.due("restore(3)", x.restore(3), 1);
        check.due("old cell", x.cell(0, 0, 0), 4);
        check.due("new cell", x.cell(1, 0, 0), 5);
        check.due("delivered cell", x.cell(1, 1, 7), 3);
        check.due("letters sent", x.count(6), 2);
        check.due("the one waits", x.letter(1, 5), 1);
        check.due("the other came", x.letter(0, 5), 0);
        check.due("those sent later are not known", x.letter(2, 0), Check.FAILED);
        check.due("count(7)", x.count(7), 1);
        check.due("rooms can't change while one waits", x.room(1, 0), Check.NOT);
        check.due("run beside", x.count(8), 1);
        check.due("first unlike", x.unlike(3), 4);
        check.due("first unlike, new", x.unlike(4), 5);
        check.due("acts in the old house", x.count(4), 2);
        check.due("acts in the new house", x.count(5), 3);
        check.due("laws stay", x.count(3), 1);
        check.due("weights stay", x.weight(0, 1), 7);
        check.due("what was told stays", x.tell(0, 1, 0), 2);
        check.due("put stays", x.put(1), 1);
        check.due("the text stays", x.clear(1), 0);
        x.settle();
        check.due("rooms as then", x.room(1, 0), 1);
        check.due("the first one's room as then", x.room(0, 0), 0);
        check.due("restore(3) again", x.restore(3), 1);
        check.due("the image is as it was kept", x.count(7), 1);
    }

    private static void imagesKeepCounts() {
        PartedHouse x = Check.house(3);
        Check.lines(x, 0, Check.WRITE, 0, 0, Check.WRITE, 1, 0, Check.CALL, 2, 0, Check.READ, 2, 0);
        x.room(1, 1);
        x.room(2, 2);
        x.weight(3, 10);
        x.image(0);
        x.run(0, 1);
        x.image(1);
        long one = x.price();
        check.due("a write, a call, a read, an act of two rooms", one, 13);
        x.run(0, 1);
        check.due("twice", x.price(), 2 * one);
        x.restore(1);
        check.due("price of image 1", x.price(), one);
        check.due("writes of image 1", x.counted(2, 0, 1), 1);
        check.due("calls of image 1", x.counted(0, 0, 2), 1);
        check.due("reads of image 1", x.counted(1, 0, 2), 1);
        x.restore(0);
        check.due("price of image 0", x.price(), 0);
        check.due("acts of image 0", x.count(4), 0);
        x.run(0, 1);
        x.run(0, 1);
        x.run(0, 1);
        x.image(1);
        x.restore(0);
        x.restore(1);
        check.due("a place is kept anew", x.price(), 3 * one);
        x.restore(0);
        x.sync();
        x.image(2);
        x.restore(1);
        check.due("images are apart", x.counted(0, 0, 2), 3);
    }

    private static void imagesRefused() {
        PartedHouse x = Check.house(1);
        check.due("image(4)", x.image(4), Check.BAD);
        check.due("image(-1)", x.image(-1), Check.BAD);
        check.due("restore(4)", x.restore(4), Check.BAD);
        check.due("restore(-1)", x.restore(-1), Check.BAD);
        check.due("restore of none", x.restore(0), Check.NOT);
        x.image(0);
        check.due("another place", x.restore(1), Check.NOT);
        x.routine(0);
        x.law(0);
        Check.lines(x, 0, Check.WRITE, 0, 0);
        check.due("routines, lines and laws may be other", x.restore(0), 1);
        x.run(0, 5);
        x.table(0);
        check.due("a table more", x.restore(0), Check.NOT);
        check.due("nothing changed", x.cell(0, 0, 0), 5);
        x.image(0);
        check.due("kept anew", x.restore(0), 1);
        x.module(1);
        check.due("a module more", x.restore(0), Check.NOT);
    }

    private static void counting() {
        PartedHouse x = Check.house(3);
        x.routine(0);
        x.law(0);
        x.law(0);
        Check.lines(x, 0, Check.WRITE, 1, 0, Check.WRITE, 1, 1);
        x.room(1, 1);
        x.run(0, 1);
        x.run(0, 1);
        x.run(0, 1);
        x.act(0, 1);
        x.deliver(1);
        x.beside(0, 1);
        x.table(0);
        int[] due = {3, 4, 4, 2, 4, 2, 4, 3, 1};
        for (int what = 0; what <= 8; what++) {
            check.due("count(" + what + ")", x.count(what), due[what]);
        }
        check.due("count(9)", x.count(9), Check.BAD);
        check.due("count(-1)", x.count(-1), Check.BAD);
    }
}
