/** Promises 22 to 27: laws, and the orders in which letters can come. */
public final class LawsTest {
    private static final Check check = new Check();

    public static void main(String[] args) {
        makingLaws();
        makingTerms();
        lawsAreApart();
        holding();
        sumsAreLong();
        ordersOfLetters();
        brokenOnTheWay();
        worstIsTheFirst();
        bigFirst();
        brokenNow();
        check.end();
    }

    private static void makingLaws() {
        PartedHouse x = new PartedHouse();
        int[] leasts = {0, 1, -1, Integer.MAX_VALUE, Integer.MIN_VALUE, 5, 6, 7, 8, 9};
        for (int law = 0; law < 10; law++) {
            check.due("law " + law, x.law(leasts[law]), law);
        }
        check.due("law past 9", x.law(0), Check.FULL);
        check.due("count(3)", x.count(3), 10);
        int[] due = {1, 0, 1, 0, 1, 0};
        for (int law = 0; law < 6; law++) {
            check.due("a sum of 0, law " + law, x.holds(law, 0), due[law]);
            check.due("a sum of 0 in the new house, law " + law, x.holds(law, 1), due[law]);
        }
    }

    private static void makingTerms() {
        PartedHouse x = Check.house(1);
        x.law(0);
        check.due("term of no law", x.term(1, 0, 0, 1), Check.BAD);
        check.due("term of law -1", x.term(-1, 0, 0, 1), Check.BAD);
        check.due("no table", x.term(0, 1, 0, 1), Check.BAD);
        check.due("table -1", x.term(0, -1, 0, 1), Check.BAD);
        check.due("cell 8", x.term(0, 0, 8, 1), Check.BAD);
        check.due("cell -1", x.term(0, 0, -1, 1), Check.BAD);
        check.due("factor 10", x.term(0, 0, 0, 10), Check.BAD);
        check.due("factor -10", x.term(0, 0, 0, -10), Check.BAD);
        int[] factors = {9, -9, 0, 1, 1, 1};
        for (int i = 0; i < 6; i++) {
            check.due("term " + i, x.term(0, 0, 7, factors[i]), i + 1);
        }
        check.due("a seventh", x.term(0, 0, 0, 1), Check.FULL);
        check.due("a bad seventh", x.term(0, 0, 0, 10), Check.BAD);
        x.law(0);
        check.due("another law's first", x.term(1, 0, 0, 1), 1);
    }

    private static void lawsAreApart() {
        PartedHouse x = Check.house(1);
        Check.lines(x, 0, Check.WRITE, 0, 0);
        for (int law = 0; law < 10; law++) {
            x.law(6);
            for (int i = 0; i < 6; i++) {
                x.term(law, 0, 0, law % 2 == 0 ? 1 : -9);
            }
        }
        x.run(0, 1);
        for (int law = 0; law < 10; law++) {
            check.due("six terms of law " + law, x.holds(law, 0), law % 2 == 0 ? 1 : 0);
        }
    }

    private static void holding() {
        PartedHouse x = Check.house(1);
        Check.lines(x, 0, Check.WRITE, 0, 0, Check.ADD, 1, 0, Check.WRITE, 0, 1);
        x.law(1);
        x.term(0, 0, 1, 1);
        x.term(0, 0, 0, -1);
        x.law(20);
        x.term(1, 0, 0, 2);
        x.term(1, 0, 0, 2);
        check.due("at first", x.holds(0, 0), 0);
        x.run(0, 5);
        check.due("1 is at least 1", x.holds(0, 0), 1);
        check.due("a cell twice", x.holds(1, 0), 1);
        check.due("not in the new house", x.holds(1, 1), 0);
        x.run(0, 4);
        check.due("16 is not", x.holds(1, 0), 0);
        x.act(0, 5);
        check.due("in the new house", x.holds(1, 1), 1);
        check.due("holds(2, 0)", x.holds(2, 0), Check.BAD);
        check.due("holds(-1, 0)", x.holds(-1, 0), Check.BAD);
        check.due("holds(0, 2)", x.holds(0, 2), Check.BAD);
        check.due("holds(0, -1)", x.holds(0, -1), Check.BAD);
    }

    private static void sumsAreLong() {
        PartedHouse x = Check.house(1);
        Check.lines(x, 0, Check.WRITE, 0, 0);
        x.law(Integer.MAX_VALUE);
        x.law(Integer.MIN_VALUE);
        for (int i = 0; i < 6; i++) {
            x.term(0, 0, 0, 9);
            x.term(1, 0, 0, 9);
        }
        x.run(0, Integer.MAX_VALUE);
        check.due("far above", x.holds(0, 0), 1);
        x.run(0, Integer.MIN_VALUE);
        check.due("far below", x.holds(1, 0), 0);
        check.due("far below the other", x.holds(0, 0), 0);
    }

    /** Routine c writes cell c of the other room's table. */
    private static PartedHouse senders() {
        PartedHouse x = new PartedHouse();
        x.module(1);
        x.module(1);
        x.table(1);
        for (int c = 0; c < 8; c++) {
            x.routine(0);
            Check.lines(x, c, Check.WRITE, 0, c);
        }
        x.room(1, 1);
        return x;
    }

    private static void ordersOfLetters() {
        PartedHouse x = senders();
        int[] due = {1, 2, 6, 24, 120, 720, Check.BIG};
        for (int c = 0; c < 7; c++) {
            x.act(c, 1);
            check.due("orders() of " + (c + 1), x.orders(), due[c]);
        }
        x.deliver(3);
        check.due("six again", x.orders(), 720);
        PartedHouse y = senders();
        int[] cells = {0, 1, 0, 1, 0, 2};
        int[] fewer = {1, 2, 3, 6, 10, 60};
        for (int i = 0; i < 6; i++) {
            y.act(cells[i], i);
            check.due("orders with one cell's in order, " + i, y.orders(), fewer[i]);
        }
        y.settle();
        check.due("none waits", y.orders(), 1);
    }

    private static void brokenOnTheWay() {
        PartedHouse x = senders();
        x.law(0);
        x.term(0, 0, 0, 1);
        x.term(0, 0, 1, 1);
        check.due("no letters", x.broken(0), 0);
        check.due("no letters, worst", x.worst(0, 0), Check.BAD);
        x.act(0, -5);
        x.act(1, 5);
        check.due("broken if the first comes first", x.broken(0), 1);
        check.due("worst(0, 0)", x.worst(0, 0), 0);
        check.due("worst(0, 1)", x.worst(0, 1), 1);
        check.due("worst(0, 2)", x.worst(0, 2), Check.BAD);
        check.due("worst(0, -1)", x.worst(0, -1), Check.BAD);
        x.act(2, 0);
        check.due("half of six", x.broken(0), 3);
        x.deliver(1);
        check.due("safe", x.broken(0), 0);
        check.due("no worst", x.worst(0, 0), Check.BAD);
        check.due("broken(1)", x.broken(1), Check.BAD);
        check.due("broken(-1)", x.broken(-1), Check.BAD);
        check.due("worst(1, 0)", x.worst(1, 0), Check.BAD);
    }

    private static void worstIsTheFirst() {
        PartedHouse x = senders();
        x.law(0);
        x.term(0, 0, 0, 1);
        x.term(0, 0, 1, 1);
        x.act(1, 5);
        x.act(0, -5);
        x.act(2, 1);
        int[] first = {1, 0, 2};
        check.due("1 ahead of 0: three of six", x.broken(0), 3);
        for (int i = 0; i < 3; i++) {
            check.due("worst(0, " + i + ")", x.worst(0, i), first[i]);
        }
        x.law(0);
        x.term(1, 0, 0, 1);
        x.term(1, 0, 1, 1);
        x.term(1, 0, 2, -9);
        x.term(1, 0, 3, 9);
        x.act(3, 1);
        int[] second = {0, 1, 2, 3};
        for (int i = 0; i < 4; i++) {
            check.due("worst(1, " + i + ")", x.worst(1, i), second[i]);
        }
        PartedHouse y = senders();
        y.law(0);
        y.term(0, 0, 1, 1);
        y.act(0, 1);
        y.act(1, -1);
        y.act(1, 1);
        check.due("one cell's in order: broken in all", y.broken(0), 3);
        int[] same = {0, 1, 2};
        for (int i = 0; i < 3; i++) {
            check.due("same cell worst " + i, y.worst(0, i), same[i]);
        }
        y.deliver(2);
        y.deliver(1);
        y.act(1, 4);
        check.due("broken now, and so in all", y.broken(0), 2);
        check.due("broken now, worst", y.worst(0, 1), 3);
    }

    private static void bigFirst() {
        PartedHouse x = senders();
        x.law(5);
        for (int c = 0; c < 7; c++) {
            x.act(c, 1);
        }
        check.due("broken(0) of seven", x.broken(0), Check.BIG);
        check.due("broken(1) of seven", x.broken(1), Check.BAD);
        check.due("worst(0, 0) of seven", x.worst(0, 0), Check.BIG);
        check.due("worst(1, 0) of seven", x.worst(1, 0), Check.BAD);
        check.due("orders() of seven", x.orders(), Check.BIG);
        x.deliver(0);
        check.due("broken(0) of six", x.broken(0), 720);
        check.due("worst(0, 0) of six", x.worst(0, 0), 1);
        check.due("worst(0, 5) of six", x.worst(0, 5), 6);
        check.due("worst(0, 6) of six", x.worst(0, 6), Check.BAD);
    }

    private static void brokenNow() {
        PartedHouse x = senders();
        x.law(3);
        x.term(0, 0, 0, 1);
        check.due("broken now, none on the way", x.broken(0), 1);
        check.due("an order of no letters has none", x.worst(0, 0), Check.BAD);
        x.act(0, 4);
        x.act(1, 4);
        check.due("broken now, mended later", x.broken(0), 2);
        check.due("the first order", x.worst(0, 0), 0);
        check.due("laws change nothing", x.count(7), 2);
        check.due("nor cells", x.cell(1, 0, 0), 0);
    }
}
