/** Promises 11 to 17: rooms, weights, what is told, prices, cuts and rings. */
public final class RoomsTest {
    private static final Check check = new Check();

    public static void main(String[] args) {
        rooms();
        weights();
        telling();
        prices();
        manySetsOfHomes();
        cutRefusals();
        cutTies();
        cutBounds();
        cutOfNine();
        puts();
        rings();
        check.end();
    }

    private static void rooms() {
        PartedHouse x = Check.house(2);
        check.due("room(0, 5)", x.room(0, 5), 0);
        check.due("room(0, 2)", x.room(0, 2), 5);
        check.due("room(0, 6)", x.room(0, 6), Check.BAD);
        check.due("room(0, -1)", x.room(0, -1), Check.BAD);
        check.due("room(2, 0)", x.room(2, 0), Check.BAD);
        check.due("room(-1, 0)", x.room(-1, 0), Check.BAD);
        Check.lines(x, 0, Check.WRITE, 1, 0);
        x.act(0, 3);
        check.due("a letter waits", x.room(0, 2), Check.NOT);
        check.due("bad while a letter waits", x.room(0, 6), Check.BAD);
        x.settle();
        check.due("it came", x.room(0, 1), 2);
        x.act(0, 4);
        x.sync();
        check.due("sync leaves none waiting", x.room(0, 0), 1);
    }

    private static void weights() {
        PartedHouse x = new PartedHouse();
        for (int what = 0; what < 4; what++) {
            check.due("first weight " + what, x.weight(what, 99), 1);
            check.due("weight at 99 " + what, x.weight(what, 0), 99);
            check.due("weight at 0 " + what, x.weight(what, what), 0);
        }
        check.due("weight(0, 100)", x.weight(0, 100), Check.BAD);
        check.due("weight(0, -1)", x.weight(0, -1), Check.BAD);
        check.due("weight(4, 1)", x.weight(4, 1), Check.BAD);
        check.due("weight(-1, 1)", x.weight(-1, 1), Check.BAD);
        check.due("refused weights change nothing", x.weight(0, 1), 0);
    }

    private static void telling() {
        PartedHouse x = Check.house(3);
        check.due("tell(0, 1, 1)", x.tell(0, 1, 1), 0);
        check.due("of either is of both", x.tell(1, 0, 2), 1);
        check.due("tell(0, 1, 0)", x.tell(0, 1, 0), 2);
        check.due("tell(1, 0, 0)", x.tell(1, 0, 0), 0);
        check.due("tell(0, 1, 3)", x.tell(0, 1, 3), Check.BAD);
        check.due("tell(0, 1, -1)", x.tell(0, 1, -1), Check.BAD);
        check.due("tell(1, 1, 0)", x.tell(1, 1, 0), Check.BAD);
        check.due("tell(0, 3, 1)", x.tell(0, 3, 1), Check.BAD);
        check.due("tell(-1, 0, 1)", x.tell(-1, 0, 1), Check.BAD);
    }

    private static void prices() {
        PartedHouse x = Check.house(4);
        x.weight(0, 2);
        x.weight(1, 10);
        x.weight(2, 50);
        x.weight(3, 99);
        Check.lines(x, 0, Check.CALL, 1, 0, Check.CALL, 1, 0, Check.READ, 2, 0);
        Check.lines(x, 1, Check.WRITE, 2, 0, Check.WRITE, 3, 0, Check.WRITE, 1, 0);
        x.run(0, 1);
        check.due("all in one room", x.price(), 0);
        x.room(0, 1);
        check.due("two calls and a read", x.price(), 2 * 2 + 10);
        x.room(2, 1);
        check.due("two calls, two writes, an act of two rooms", x.price(), 2 * 2 + 2 * 50 + 99);
        x.room(3, 5);
        check.due("an act of three rooms", x.price(), 2 * 2 + 4 * 50 + 2 * 99);
        x.run(1, 1);
        check.due("another such act", x.price(), 2 * 2 + 6 * 50 + 4 * 99);
        x.weight(3, 0);
        check.due("weights as they are now", x.price(), 2 * 2 + 6 * 50);
        PartedHouse y = Check.house(2);
        Check.lines(y, 0, Check.WRITE, 1, 0);
        y.run(0, 1);
        y.room(0, 3);
        check.due("writes in one room alone, from another", y.price(), 1);
    }

    /** Each of the 31 sets of five homes is written by one act, so that sets are many. */
    private static void manySetsOfHomes() {
        PartedHouse x = new PartedHouse();
        for (int m = 0; m < 5; m++) {
            x.module(1);
            x.table(m);
            x.room(m, m);
        }
        for (int what = 0; what < 3; what++) {
            x.weight(what, 0);
        }
        x.image(0);
        for (int set = 1; set < 32; set++) {
            int routine = x.routine(0);
            for (int m = 0; m < 5; m++) {
                if ((set >> m & 1) != 0) {
                    Check.lines(x, routine, Check.WRITE, m, 0);
                }
            }
            x.run(routine, set);
        }
        check.due("all sets, each alone", x.price(), 5 * 16 - 31);
        x.run(20, 1);
        check.due("a set again (of 0, 2 and 4)", x.price(), 5 * 16 - 31 + 2);
        x.image(1);
        x.restore(0);
        check.due("none", x.price(), 0);
        x.restore(1);
        check.due("all of them restored", x.price(), 5 * 16 - 31 + 2);
        check.due("four of five in one room", x.cut(2, 4), 15);
        check.due("one room", x.cut(2, 5), 0);
        x.restore(0);
        x.run(20, 1);
        check.due("one alone, in a greater row", x.price(), 2);
    }

    private static void cutRefusals() {
        PartedHouse x = Check.house(2);
        check.due("cut(0, 1)", x.cut(0, 1), Check.BAD);
        check.due("cut(7, 1)", x.cut(7, 1), Check.BAD);
        check.due("cut(1, 0)", x.cut(1, 0), Check.BAD);
        check.due("cut(1, 10000)", x.cut(1, 10000), Check.BAD);
        check.due("cut(6, 9999)", x.cut(6, 9999), 0);
        check.due("cut(1, 1)", x.cut(1, 1), Check.NOT);
        check.due("cut(1, 2)", x.cut(1, 2), 0);
        x.tell(0, 1, 2);
        check.due("apart in one room", x.cut(1, 2), Check.NOT);
        check.due("apart in two", x.cut(2, 2), 0);
        x.tell(0, 1, 1);
        check.due("together in two of 1", x.cut(2, 1), Check.NOT);
        PartedHouse y = Check.house(9);
        check.due("nine", y.cut(6, 2), 0);
        y.module(1);
        check.due("ten", y.cut(6, 2), Check.BIG);
        check.due("ten and bad", y.cut(7, 2), Check.BAD);
        check.due("put stays", y.put(8), 4);
        check.due("put of the tenth", y.put(9), Check.BAD);
        check.due("rooms stay", y.room(8, 0), 0);
    }

    private static void cutTies() {
        PartedHouse x = Check.house(4);
        check.due("no counts", x.cut(3, 2), 0);
        int[] first = {0, 0, 1, 1};
        for (int m = 0; m < 4; m++) {
            check.due("first put " + m, x.put(m), first[m]);
        }
        x.tell(0, 1, 2);
        check.due("apart", x.cut(3, 2), 0);
        int[] apart = {0, 1, 0, 1};
        for (int m = 0; m < 4; m++) {
            check.due("apart put " + m, x.put(m), apart[m]);
        }
        x.tell(1, 2, 1);
        check.due("apart and together", x.cut(3, 2), 0);
        int[] both = {0, 1, 1, 0};
        for (int m = 0; m < 4; m++) {
            check.due("both put " + m, x.put(m), both[m]);
        }
        Check.lines(x, 0, Check.CALL, 3, 0);
        x.run(0, 0);
        x.tell(0, 3, 2);
        check.due("apart, though they call", x.cut(6, 4), 1);
        int[] price = {0, 1, 1, 1};
        for (int m = 0; m < 4; m++) {
            check.due("price put " + m, x.put(m), price[m]);
        }
    }

    private static void cutBounds() {
        PartedHouse x = new PartedHouse();
        int[] sizes = {60, 50, 40, 30, 20};
        for (int size : sizes) {
            x.module(size);
            x.routine(x.count(0) - 1);
        }
        Check.lines(x, 0, Check.CALL, 1, 0, Check.CALL, 4, 0);
        x.run(0, 0);
        check.due("two rooms of 100", x.cut(2, 100), 2);
        int[] due = {0, 1, 0, 1, 1};
        for (int m = 0; m < 5; m++) {
            check.due("bound put " + m, x.put(m), due[m]);
        }
        check.due("two rooms of 99", x.cut(2, 99), Check.NOT);
        check.due("three rooms of 99", x.cut(3, 99), 1);
        int[] more = {0, 1, 1, 2, 0};
        for (int m = 0; m < 5; m++) {
            check.due("three rooms put " + m, x.put(m), more[m]);
        }
        check.due("three rooms of 110", x.cut(3, 110), 1);
        int[] wide = {0, 0, 1, 1, 1};
        for (int m = 0; m < 5; m++) {
            check.due("wide put " + m, x.put(m), wide[m]);
        }
    }

    private static void cutOfNine() {
        PartedHouse x = Check.house(9);
        for (int m = 0; m < 9; m++) {
            Check.lines(x, m, Check.WRITE, m, 0, Check.WRITE, (m + 4) % 9, 0, Check.READ, (m + 1) % 9, 0);
        }
        for (int m = 0; m < 9; m++) {
            x.run(m, 1);
        }
        check.due("each alone is too many", x.cut(6, 1), Check.NOT);
        long pairs = x.cut(6, 2);
        int[] inRoom = new int[6];
        for (int m = 0; m < 9; m++) {
            inRoom[x.put(m)]++;
            x.room(m, x.put(m));
        }
        for (int r = 0; r < 6; r++) {
            check.due("room " + r + " has at most 2", inRoom[r] <= 2 ? 1 : 0, 1);
        }
        check.due("its price is that of its rooms", x.price(), pairs);
        check.due("its price", pairs, 19);
    }

    private static void puts() {
        PartedHouse x = Check.house(2);
        check.due("put before any", x.put(0), Check.BAD);
        check.due("refused", x.cut(1, 1), Check.NOT);
        check.due("put before any that was not refused", x.put(0), Check.BAD);
        x.tell(0, 1, 2);
        x.cut(2, 9);
        check.due("put(1)", x.put(1), 1);
        x.module(1);
        check.due("put of one that came later", x.put(2), Check.BAD);
        check.due("put(-1)", x.put(-1), Check.BAD);
        x.cut(0, 9);
        x.tell(0, 1, 0);
        check.due("put stays by the latest cut", x.put(1), 1);
        x.cut(2, 9);
        check.due("another cut", x.put(1), 0);
        check.due("another cut's module", x.put(2), 0);
    }

    private static void rings() {
        PartedHouse x = Check.house(7);
        for (int m = 1; m < 6; m++) {
            x.room(m, m);
        }
        x.room(6, 5);
        Check.lines(x, 5, Check.CALL, 6, 0);
        check.due("calls in one room are no ring", x.ring(0), Check.BAD);
        Check.lines(x, 5, Check.CALL, 4, 0);
        Check.lines(x, 4, Check.CALL, 3, 0);
        check.due("a chain is no ring", x.ring(0), Check.BAD);
        Check.lines(x, 3, Check.CALL, 6, 0);
        int[] three = {3, 5, 4, Check.BAD};
        for (int i = 0; i < 4; i++) {
            check.due("ring of three (" + i + ")", x.ring(i), three[i]);
        }
        check.due("ring(-1)", x.ring(-1), Check.BAD);
        Check.lines(x, 0, Check.CALL, 1, 0, Check.CALL, 2, 0);
        Check.lines(x, 1, Check.CALL, 5, 0);
        Check.lines(x, 2, Check.CALL, 4, 0);
        Check.lines(x, 5, Check.CALL, 0, 0);
        Check.lines(x, 4, Check.CALL, 0, 0);
        int[] first = {0, 1, 5, Check.BAD};
        for (int i = 0; i < 4; i++) {
            check.due("the first ring of three (" + i + ")", x.ring(i), first[i]);
        }
        Check.lines(x, 6, Check.CALL, 3, 0);
        check.due("a ring of two, first room", x.ring(0), 3);
        check.due("a ring of two, second room", x.ring(1), 5);
        check.due("a ring of two, end", x.ring(2), Check.BAD);
        x.room(6, 4);
        check.due("rooms as they are", x.ring(1), 4);
        PartedHouse y = Check.house(6);
        int[] order = {0, 3, 1, 5, 2, 4};
        for (int i = 0; i < 6; i++) {
            y.room(i, i);
            Check.lines(y, order[i], Check.CALL, order[(i + 1) % 6], 0);
        }
        for (int i = 0; i < 6; i++) {
            check.due("ring of six (" + i + ")", y.ring(i), order[i]);
        }
        check.due("ring of six, end", y.ring(6), Check.BAD);
    }
}
