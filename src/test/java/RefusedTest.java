import java.util.ArrayList;
import java.util.List;
import java.util.function.ToLongFunction;

/**
 * "What is answered so changes nothing": each refusal of each call is put to a used object, and then all that can be
 * read off it is held against a twin that was never refused anything. "Answers, of several the one named first": calls
 * that are refused for two reasons.
 */
public final class RefusedTest {
    private static final Check check = new Check();
    private static final int PARTS = 6;

    public static void main(String[] args) {
        refusalsOfAUsedHouse();
        refusalsOfAFullHouse();
        severalReasons();
        check.end();
    }

    /** A house with something of everything: lines, counts, a cut, letters that wait and came, an unlike act, images. */
    private static PartedHouse usedHouse() {
        PartedHouse x = new PartedHouse();
        for (int m = 0; m < 3; m++) {
            x.module(10 * m + 10);
            x.table(m);
            x.routine(m);
            x.room(m, m);
        }
        x.routine(0);
        x.routine(1);
        x.image(1);
        x.table(2);
        Check.lines(x, 0, Check.MORE, 0, 0, Check.WRITE, 0, 0, Check.WRITE, 1, 7, Check.CALL, 1, 0, Check.CALL, 2, 0);
        Check.lines(x, 1, Check.LESS, 2, 1, Check.FAIL, 0, 0, Check.WRITE, 2, 1, Check.CALL, 0, 0);
        x.clear(1);
        Check.lines(x, 1, Check.WRITE, 1, 1, Check.CALL, 2, 0);
        Check.lines(x, 2, Check.READ, 1, 1, Check.WRITE, 3, 2);
        Check.repeat(x, 3, 16, Check.ADD, 1, 0);
        Check.lines(x, 4, Check.FAIL, 0, 0, Check.WRITE, 1, 3, Check.CALL, 0, 0, Check.CALL, 4, 0);
        x.weight(0, 3);
        x.weight(3, 8);
        x.tell(0, 2, 2);
        x.cut(3, 30);
        x.law(4);
        x.law(0);
        for (int c = 0; c < 6; c++) {
            x.term(0, 1, c, c - 2);
        }
        x.term(1, 2, 1, 1);
        x.run(0, 5);
        x.run(1, 6);
        x.sync();
        x.act(0, 2);
        x.deliver(1);
        x.beside(1, 3);
        x.image(0);
        x.run(0, 1);
        x.beside(0, 4);
        x.act(1, 9);
        x.deliver(2);
        x.deliver(5);
        return x;
    }

    /** As many of everything as there can be, seven letters on their way, and ten modules, which is BIG for a cut. */
    private static PartedHouse fullHouse() {
        PartedHouse x = new PartedHouse();
        for (int m = 0; m < 10; m++) {
            x.module(m + 1);
            x.law(m - 3);
            if (m == 8) {
                x.cut(3, 20);
            }
        }
        for (int t = 0; t < 16; t++) {
            x.table(t % 10);
        }
        for (int r = 0; r < 40; r++) {
            x.routine(r % 10);
        }
        x.room(1, 1);
        x.room(9, 4);
        for (int c = 0; c < 7; c++) {
            Check.lines(x, 0, Check.WRITE, 1, c);
        }
        Check.repeat(x, 0, 9, Check.CALL, 1, 0);
        Check.lines(x, 1, Check.ADD, 1, 0, Check.MORE, 15, 7);
        for (int c = 0; c < 6; c++) {
            x.term(9, 1, c, 1);
        }
        x.beside(0, 3);
        x.image(2);
        return x;
    }

    /** One part of all that can be read off an object: parts, since some of the calls that read it change it. */
    private static List<Long> read(PartedHouse x, int part) {
        List<Long> all = new ArrayList<>();
        if (part == 0) {
            readCells(x, all);
        } else if (part == 1 || part == 2) {
            readTies(x, part == 1, all);
        } else if (part == 3) {
            readLetters(x, all);
        } else if (part == 4) {
            readRooms(x, all);
        } else {
            readText(x, all);
        }
        return all;
    }

    private static void readCells(PartedHouse x, List<Long> all) {
        for (int what = 0; what <= 8; what++) {
            all.add((long) x.count(what));
        }
        for (int table = 0; table < x.count(1); table++) {
            for (int place = 0; place < 16; place++) {
                all.add((long) x.cell(place / 8, table, place % 8));
            }
        }
        all.add((long) x.differ());
    }

    private static void readTies(PartedHouse x, boolean counted, List<Long> all) {
        int modules = x.count(0), tables = x.count(1);
        for (int m = 0; m < modules; m++) {
            for (int n = 0; n < modules && modules < 10; n++) {
                all.add((long) (counted ? x.counted(0, m, n) : x.tied(0, m, n)));
            }
            for (int t = 0; t < tables; t++) {
                all.add((long) (counted ? x.counted(1, m, t) : x.tied(1, m, t)));
                if (t < 6) {
                    all.add((long) (counted ? x.counted(2, m, t) : x.tied(2, m, t)));
                }
            }
        }
    }

    private static void readLetters(PartedHouse x, List<Long> all) {
        for (int l = 0; l < x.count(6); l++) {
            for (int what = 0; what <= 5; what++) {
                all.add((long) x.letter(l, what));
            }
        }
        all.add((long) x.orders());
        for (int law = 0; law < x.count(3); law++) {
            all.add((long) x.holds(law, 0));
            all.add((long) x.holds(law, 1));
            all.add((long) x.broken(law));
            for (int i = 0; i < 6; i++) {
                all.add((long) x.worst(law, i));
            }
        }
        for (int what = 0; what <= 4; what++) {
            all.add((long) x.unlike(what));
        }
        for (int l = x.count(6) - 1; l >= 0; l--) {
            all.add((long) x.deliver(l));
        }
        for (int law = 0; law < x.count(3); law++) {
            all.add((long) x.holds(law, 1));
            all.add((long) x.term(law, 0, 0, 0));
        }
    }

    private static void readRooms(PartedHouse x, List<Long> all) {
        all.add(x.price());
        for (int m = 0; m < x.count(0); m++) {
            all.add((long) x.put(m));
        }
        for (int i = 0; i < 6; i++) {
            all.add((long) x.ring(i));
        }
        for (int most = 10; most <= 60; most += 5) {
            all.add(x.cut(3, most));
        }
        for (int a = 0; a < x.count(0); a++) {
            for (int b = 0; b < a; b++) {
                all.add((long) x.tell(a, b, 0));
            }
        }
        for (int what = 0; what < 4; what++) {
            all.add((long) x.weight(what, 10));
        }
        all.add(x.price());
        all.add((long) x.settle());
        for (int m = 0; m < x.count(0); m++) {
            all.add((long) x.room(m, 0));
        }
        for (int i = 0; i < 4; i++) {
            all.add((long) x.restore(i));
            all.add(x.price());
            for (int what = 4; what <= 8; what++) {
                all.add((long) x.count(what));
            }
        }
    }

    private static void readText(PartedHouse x, List<Long> all) {
        for (int r = 0; r < x.count(2); r++) {
            all.add((long) x.run(r, 2));
            all.add((long) x.act(r, 2));
            all.add((long) x.beside(r, -3));
        }
        for (int what = 0; what <= 8; what++) {
            all.add((long) x.count(what));
        }
        all.add((long) x.differ());
        for (int r = 0; r < x.count(2); r++) {
            all.add((long) x.clear(r));
        }
    }

    private static void refused(boolean full, String call, long want, ToLongFunction<PartedHouse> asked) {
        for (int part = 0; part < PARTS; part++) {
            PartedHouse x = full ? fullHouse() : usedHouse();
            PartedHouse twin = full ? fullHouse() : usedHouse();
            check.due(call, asked.applyAsLong(x), want);
            check.due(call + " leaves part " + part + " as it was", read(x, part).equals(read(twin, part)) ? 1 : 0, 1);
        }
    }

    private static void used(String call, long want, ToLongFunction<PartedHouse> asked) {
        refused(false, call, want, asked);
    }

    private static void full(String call, long want, ToLongFunction<PartedHouse> asked) {
        refused(true, call, want, asked);
    }

    private static void refusalsOfAUsedHouse() {
        check.sentence("What is answered so changes nothing.");
        used("module(0)", Check.BAD, x -> x.module(0));
        used("module(100)", Check.BAD, x -> x.module(100));
        used("table(3)", Check.BAD, x -> x.table(3));
        used("routine(-1)", Check.BAD, x -> x.routine(-1));
        used("line(5, SET, 0, 0)", Check.BAD, x -> x.line(5, Check.SET, 0, 0));
        used("line(0, SET, 1000, 0)", Check.BAD, x -> x.line(0, Check.SET, 1000, 0));
        used("line(0, WRITE, 4, 0)", Check.BAD, x -> x.line(0, Check.WRITE, 4, 0));
        used("line(0, CALL, 5, 0)", Check.BAD, x -> x.line(0, Check.CALL, 5, 0));
        used("line(3, ADD, 1, 0)", Check.FULL, x -> x.line(3, Check.ADD, 1, 0));
        used("line(3, CALL, 2, 0)", Check.FULL, x -> x.line(3, Check.CALL, 2, 0));
        used("clear(5)", Check.BAD, x -> x.clear(5));
        used("run(5, 1)", Check.BAD, x -> x.run(5, 1));
        used("run(4, -1)", Check.FAILED, x -> x.run(4, -1));
        used("run(4, 1)", Check.FAILED, x -> x.run(4, 1));
        used("cell(2, 0, 0)", Check.FAILED, x -> x.cell(2, 0, 0));
        used("counted(0, 3, 0)", Check.BAD, x -> x.counted(0, 3, 0));
        used("tied(3, 0, 0)", Check.BAD, x -> x.tied(3, 0, 0));
        used("room(3, 0)", Check.BAD, x -> x.room(3, 0));
        used("room(0, 6)", Check.BAD, x -> x.room(0, 6));
        used("room(0, 4)", Check.NOT, x -> x.room(0, 4));
        used("weight(0, 100)", Check.BAD, x -> x.weight(0, 100));
        used("weight(4, 9)", Check.BAD, x -> x.weight(4, 9));
        used("tell(0, 1, 3)", Check.BAD, x -> x.tell(0, 1, 3));
        used("tell(1, 1, 2)", Check.BAD, x -> x.tell(1, 1, 2));
        used("tell(0, 3, 1)", Check.BAD, x -> x.tell(0, 3, 1));
        used("cut(7, 30)", Check.BAD, x -> x.cut(7, 30));
        used("cut(2, 0)", Check.BAD, x -> x.cut(2, 0));
        used("cut(2, 29)", Check.NOT, x -> x.cut(2, 29));
        used("cut(1, 9999)", Check.NOT, x -> x.cut(1, 9999));
        used("put(3)", Check.BAD, x -> x.put(3));
        used("ring(9)", Check.BAD, x -> x.ring(9));
        used("act(-1, 1)", Check.BAD, x -> x.act(-1, 1));
        used("act(4, -1)", Check.FAILED, x -> x.act(4, -1));
        used("act(4, 1)", Check.FAILED, x -> x.act(4, 1));
        used("deliver(-1)", Check.BAD, x -> x.deliver(-1));
        used("deliver(99)", Check.BAD, x -> x.deliver(99));
        used("deliver(1) again", 0, x -> x.deliver(1));
        used("letter(99, 0)", Check.FAILED, x -> x.letter(99, 0));
        used("letter(0, 6)", Check.FAILED, x -> x.letter(0, 6));
        used("term(2, 0, 0, 1)", Check.BAD, x -> x.term(2, 0, 0, 1));
        used("term(1, 4, 0, 1)", Check.BAD, x -> x.term(1, 4, 0, 1));
        used("term(1, 0, 8, 1)", Check.BAD, x -> x.term(1, 0, 8, 1));
        used("term(1, 0, 0, 10)", Check.BAD, x -> x.term(1, 0, 0, 10));
        used("term(0, 0, 0, 1)", Check.FULL, x -> x.term(0, 0, 0, 1));
        used("holds(2, 0)", Check.BAD, x -> x.holds(2, 0));
        used("broken(2)", Check.BAD, x -> x.broken(2));
        used("worst(2, 0)", Check.BAD, x -> x.worst(2, 0));
        used("worst(0, 9)", Check.BAD, x -> x.worst(0, 9));
        used("beside(5, 0)", Check.BAD, x -> x.beside(5, 0));
        used("unlike(5)", Check.BAD, x -> x.unlike(5));
        used("image(4)", Check.BAD, x -> x.image(4));
        used("image(-1)", Check.BAD, x -> x.image(-1));
        used("restore(4)", Check.BAD, x -> x.restore(4));
        used("restore(3)", Check.NOT, x -> x.restore(3));
        used("restore(1)", Check.NOT, x -> x.restore(1));
        used("count(9)", Check.BAD, x -> x.count(9));
    }

    private static void refusalsOfAFullHouse() {
        check.sentence("What is answered so changes nothing.");
        full("module(1)", Check.FULL, x -> x.module(1));
        full("table(0)", Check.FULL, x -> x.table(0));
        full("routine(0)", Check.FULL, x -> x.routine(0));
        full("line(0, WRITE, 1, 7)", Check.FULL, x -> x.line(0, Check.WRITE, 1, 7));
        full("law(5)", Check.FULL, x -> x.law(5));
        full("term(9, 0, 0, 1)", Check.FULL, x -> x.term(9, 0, 0, 1));
        full("cut(6, 99)", Check.BIG, x -> x.cut(6, 99));
        full("broken(0)", Check.BIG, x -> x.broken(0));
        full("worst(0, 0)", Check.BIG, x -> x.worst(0, 0));
        full("orders()", Check.BIG, x -> x.orders());
        full("put(9)", Check.BAD, x -> x.put(9));
        full("unlike(0)", Check.NOT, x -> x.unlike(0));
        full("ring(0)", Check.BAD, x -> x.ring(0));
    }

    private static void severalReasons() {
        check.sentence("Answers, of several the one named first");
        used("line, BAD ahead of FULL", Check.BAD, x -> x.line(3, Check.ADD, 1000, 0));
        used("room, BAD ahead of NOT", Check.BAD, x -> x.room(0, 6));
        used("room of no module, BAD ahead of NOT", Check.BAD, x -> x.room(3, 0));
        used("cut, BAD ahead of NOT", Check.BAD, x -> x.cut(7, 1));
        used("term, BAD (a cell) ahead of FULL", Check.BAD, x -> x.term(0, 0, 8, 1));
        used("term, BAD (a table) ahead of FULL", Check.BAD, x -> x.term(0, 4, 0, 1));
        used("term, BAD (a factor) ahead of FULL", Check.BAD, x -> x.term(0, 0, 0, 10));
        full("module, BAD ahead of FULL", Check.BAD, x -> x.module(0));
        full("table, BAD ahead of FULL", Check.BAD, x -> x.table(10));
        full("routine, BAD ahead of FULL", Check.BAD, x -> x.routine(10));
        full("line, BAD (no routine) ahead of FULL", Check.BAD, x -> x.line(40, Check.ADD, 1, 0));
        full("cut (r), BAD ahead of BIG", Check.BAD, x -> x.cut(0, 99));
        full("cut (most), BAD ahead of BIG", Check.BAD, x -> x.cut(6, 10000));
        full("cut, BIG ahead of NOT", Check.BIG, x -> x.cut(1, 1));
        full("broken, BAD ahead of BIG", Check.BAD, x -> x.broken(10));
        full("worst of no law, BAD ahead of BIG", Check.BAD, x -> x.worst(10, 0));
        full("worst past the order, BIG ahead of BAD", Check.BIG, x -> x.worst(9, 7));
        full("worst where none is broken, BIG ahead of BAD", Check.BIG, x -> x.worst(0, 0));
        full("unlike, BAD ahead of NOT", Check.BAD, x -> x.unlike(5));
        full("restore, BAD ahead of NOT", Check.BAD, x -> x.restore(4));
    }
}
