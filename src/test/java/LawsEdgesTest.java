/** The sentences on laws and orders that name a boundary case: promises 22 to 27. */
public final class LawsEdgesTest {
    private static final Check check = new Check();

    public static void main(String[] args) {
        tenLaws();
        anyToldNumber();
        aSumOfZero();
        sixTerms();
        factors();
        termsOfNoLaw();
        termsOfNoCell();
        howManyItHas();
        atLeast();
        asALong();
        eachTimesAFactor();
        inAHouseByItsCells();
        holdsOfNone();
        ordersOfNone();
        ordersOfAtMostSix();
        oneCellsInOrder();
        oneCellsInOrderFromSeveralActs();
        brokenNow();
        brokenBehindTheFirst();
        brokenBehindTheLast();
        brokenInTheMiddle();
        neverBroken();
        brokenOfNone();
        theFirstSuchOrder();
        byTheNumbersOfLetters();
        aWorstOrderKeepsCellsInOrder();
        worstOfNoLaw();
        worstPastTheOrder();
        worstOfNone();
        bigOfEach();
        questionsChangeNothing();
        check.end();
    }

    /** Table 0 is in room 1; routine c of room 0 writes its cell c, so that each of its acts sends one letter. */
    private static PartedHouse senders() {
        PartedHouse x = new PartedHouse();
        x.module(1);
        x.module(1);
        x.table(1);
        for (int c = 0; c < 8; c++) {
            x.routine(0);
            Check.lines(x, c, Check.WRITE, 0, c);
        }
        x.room(1, 1);
        return x;
    }

    /** A law with a term for each of the first cells. */
    private static int lawOf(PartedHouse x, int least, int... factors) {
        int law = x.law(least);
        for (int c = 0; c < factors.length; c++) {
            x.term(law, 0, c, factors[c]);
        }
        return law;
    }

    private static void tenLaws() {
        check.sentence("LAWS 0 .. 9");
        PartedHouse x = new PartedHouse();
        check.row("law of the row", i -> x.law(i), 0, 1, 2, 3, 4, 5, 6, 7, 8, 9, Check.FULL, Check.FULL);
        check.due("count(3)", x.count(3), 10);
        check.due("law 9 is one", x.holds(9, 0), 0);
        check.due("law 10 is none", x.holds(10, 0), Check.BAD);
    }

    private static void anyToldNumber() {
        check.sentence("that must be at least a told number");
        PartedHouse x = new PartedHouse();
        int[] leasts = {Check.LEAST, -1, 0, 1, Check.GREATEST, Check.FAILED};
        int[] holds = {1, 1, 1, 0, 0, 1};
        for (int law = 0; law < leasts.length; law++) {
            check.due("law(" + leasts[law] + ")", x.law(leasts[law]), law);
            check.due("holds(" + law + ", 0)", x.holds(law, 0), holds[law]);
        }
    }

    private static void aSumOfZero() {
        check.sentence("A LAW, without terms (a sum of 0): its number.");
        PartedHouse x = senders();
        x.law(0);
        x.law(1);
        x.act(0, 5);
        check.due("0 is at least 0", x.holds(0, 1), 1);
        check.due("0 is not at least 1", x.holds(1, 1), 0);
        check.due("broken in no order", x.broken(0), 0);
        check.due("broken in each order", x.broken(1), 1);
    }

    private static void sixTerms() {
        check.sentence("at most 6 terms");
        PartedHouse x = senders();
        x.law(0);
        x.law(0);
        check.row("term of the row", c -> x.term(0, 0, c, 1), 1, 2, 3, 4, 5, 6, Check.FULL, Check.FULL);
        check.due("another law's first", x.term(1, 0, 0, 1), 1);
        PartedHouse y = senders();
        lawOf(y, 6, 1, 1, 1, 1, 1, 1);
        lawOf(y, 7, 1, 1, 1, 1, 1, 1);
        y.term(1, 0, 6, 1);
        for (int c = 0; c < 8; c++) {
            y.run(c, 1);
        }
        check.due("all six are summed", y.holds(0, 0), 1);
        check.due("the seventh is not", y.holds(1, 0), 0);
    }

    private static void factors() {
        check.sentence("each times a factor (-9 .. 9)");
        PartedHouse x = senders();
        x.law(0);
        check.each("term(0, 0, 0, factor)", Check.BAD, f -> x.term(0, 0, 0, f), Check.outside(-9, 9));
        check.due("-9", x.term(0, 0, 0, -9), 1);
        check.due("9", x.term(0, 0, 0, 9), 2);
        check.due("0", x.term(0, 0, 0, 0), 3);
    }

    private static void termsOfNoLaw() {
        check.sentence("A term more of a LAW: how many it has. BAD");
        PartedHouse x = senders();
        check.each("without laws, term(law, 0, 0, 1)", Check.BAD, law -> x.term(law, 0, 0, 1), Check.outside(0, -1));
        x.law(0);
        x.law(0);
        check.each("term(law, 0, 0, 1)", Check.BAD, law -> x.term(law, 0, 0, 1), Check.outside(0, 1));
        check.row("term(law, 0, 0, 1)", law -> x.term(law, 0, 0, 1), 1, 1, Check.BAD);
    }

    private static void termsOfNoCell() {
        check.sentence("A term more of a LAW: how many it has. BAD");
        PartedHouse x = senders();
        x.table(0);
        x.law(0);
        check.each("term(0, table, 0, 1)", Check.BAD, t -> x.term(0, t, 0, 1), Check.outside(0, 1));
        check.each("term(0, 1, cell, 1)", Check.BAD, c -> x.term(0, 1, c, 1), Check.outside(0, 7));
        check.due("the first cell", x.term(0, 0, 0, 1), 1);
        check.due("the last cell", x.term(0, 1, 7, 1), 2);
    }

    private static void howManyItHas() {
        check.sentence("A term more of a LAW: how many it has.");
        PartedHouse x = senders();
        x.law(0);
        check.due("one", x.term(0, 0, 3, 1), 1);
        check.due("one of the same cell, too", x.term(0, 0, 3, 1), 2);
        check.due("one of factor 0, too", x.term(0, 0, 3, 0), 3);
    }

    private static void atLeast() {
        check.sentence("that must be at least a told number");
        PartedHouse x = senders();
        lawOf(x, 5, 1);
        lawOf(x, -5, 1);
        lawOf(x, 5, -1);
        int[] numbers = {4, 5, 6, -6, -5, -4};
        int[][] due = {{0, 1, 1, 0, 0, 0}, {1, 1, 1, 0, 1, 1}, {0, 0, 0, 1, 1, 0}};
        for (int i = 0; i < numbers.length; i++) {
            x.run(0, numbers[i]);
            for (int law = 0; law < 3; law++) {
                check.due("holds(" + law + ", 0) at " + numbers[i], x.holds(law, 0), due[law][i]);
            }
        }
    }

    private static void asALong() {
        check.sentence("at least a told number (as a long)");
        PartedHouse x = senders();
        lawOf(x, Check.GREATEST, 9, 9, 9, 9, 9, 9);
        lawOf(x, Check.LEAST, 9, 9, 9, 9, 9, 9);
        lawOf(x, 0, 1, 1);
        lawOf(x, Check.GREATEST, -1);
        lawOf(x, Check.LEAST, -9, -9);
        lawOf(x, 0, 1, 1, 0, 0, 0, 0);
        for (int c = 0; c < 6; c++) {
            x.run(c, Check.GREATEST);
        }
        check.row("all at the greatest", law -> x.holds(law, 0), 1, 1, 1, 0, 0, 1);
        for (int c = 0; c < 6; c++) {
            x.run(c, Check.LEAST);
        }
        check.row("all at the least", law -> x.holds(law, 0), 0, 0, 0, 1, 1, 0);
        check.row("in the new house, all at 0", law -> x.holds(law, 1), 0, 1, 1, 0, 1, 1);
        for (int c = 0; c < 2; c++) {
            x.act(c, Check.GREATEST);
        }
        check.due("on their way, too", x.broken(4), 2);
        check.due("on their way a sum of 2 times the greatest", x.broken(2), 0);
        check.due("now it does not hold", x.broken(0), 2);
    }

    private static void eachTimesAFactor() {
        check.sentence("a sum of cells, each times a factor");
        PartedHouse x = senders();
        lawOf(x, 123, 9, -9, 1);
        lawOf(x, 124, 9, -9, 1);
        x.law(40);
        x.law(41);
        for (int i = 0; i < 2; i++) {
            x.term(2, 0, 0, 1);
            x.term(3, 0, 0, 1);
        }
        x.run(0, 20);
        x.run(1, 7);
        x.run(2, 6);
        x.run(3, 999);
        check.row("180 - 63 + 6, and 20 twice", law -> x.holds(law, 0), 1, 0, 1, 0, Check.BAD);
    }

    private static void inAHouseByItsCells() {
        check.sentence("A LAW holds in a house by its cells.");
        PartedHouse x = senders();
        lawOf(x, 1, 1);
        x.run(0, 1);
        check.row("in the old house alone", house -> x.holds(0, house), 1, 0, Check.BAD);
        x.act(0, 1);
        check.row("a letter is on its way", house -> x.holds(0, house), 1, 0, Check.BAD);
        x.settle();
        check.row("it came", house -> x.holds(0, house), 1, 1, Check.BAD);
        x.run(0, 0);
        check.row("in the new house alone", house -> x.holds(0, house), 0, 1, Check.BAD);
        x.sync();
        check.row("in neither", house -> x.holds(0, house), 0, 0, Check.BAD);
    }

    private static void holdsOfNone() {
        check.sentence("1 if a LAW holds in a house (0 old, 1 new), else 0. BAD.");
        PartedHouse x = senders();
        check.each("without laws, holds(law, 0)", Check.BAD, law -> x.holds(law, 0), Check.outside(0, -1));
        x.law(0);
        x.law(0);
        check.each("holds(law, 0)", Check.BAD, law -> x.holds(law, 0), Check.outside(0, 1));
        check.each("holds(law, 1)", Check.BAD, law -> x.holds(law, 1), Check.outside(0, 1));
        check.each("holds(0, house)", Check.BAD, house -> x.holds(0, house), Check.outside(0, 1));
    }

    private static void ordersOfNone() {
        check.sentence("How many ORDERS there are.");
        PartedHouse x = senders();
        check.due("none was sent", x.orders(), 1);
        x.act(0, 1);
        x.settle();
        check.due("all came", x.orders(), 1);
        x.act(0, 1);
        x.act(1, 1);
        check.due("two wait", x.orders(), 2);
        x.sync();
        check.due("none waits since sync", x.orders(), 1);
    }

    private static void ordersOfAtMostSix() {
        check.sentence("of the WAITING LETTERS (at most 6, else BIG) all orders in which they can come");
        PartedHouse x = senders();
        int[] due = {1, 2, 6, 24, 120, 720, Check.BIG, Check.BIG};
        for (int c = 0; c < 8; c++) {
            x.act(c, 1);
            check.due((c + 1) + " wait", x.orders(), due[c]);
        }
        x.deliver(7);
        check.due("seven wait again", x.orders(), Check.BIG);
        x.deliver(0);
        check.due("six wait again", x.orders(), 720);
    }

    private static void oneCellsInOrder() {
        check.sentence("those to one and the same cell in the order of their numbers");
        PartedHouse x = senders();
        for (int i = 1; i <= 6; i++) {
            x.act(3, i);
            check.due(i + " to one cell", x.orders(), 1);
        }
        x.act(3, 7);
        check.due("seven to one cell", x.orders(), Check.BIG);
        PartedHouse y = senders();
        int[] cells = {0, 0, 0, 1, 1, 1};
        int[] due = {1, 1, 1, 4, 10, 20};
        for (int i = 0; i < 6; i++) {
            y.act(cells[i], i);
            check.due("of " + (i + 1) + " to two cells", y.orders(), due[i]);
        }
        y.deliver(1);
        check.due("one in the middle came", y.orders(), 10);
    }

    private static void oneCellsInOrderFromSeveralActs() {
        check.sentence("those to one and the same cell in the order of their numbers");
        PartedHouse x = senders();
        x.table(1);
        x.routine(0);
        Check.lines(x, 8, Check.WRITE, 0, 0, Check.WRITE, 1, 0, Check.WRITE, 0, 1);
        x.act(8, 1);
        check.due("cell 0 of two tables is two cells", x.orders(), 6);
        x.act(8, 2);
        check.due("each of three cells twice", x.orders(), 90);
    }

    private static void brokenNow() {
        check.sentence("at some moment (now, ahead of the first one, too, ..)");
        PartedHouse x = senders();
        lawOf(x, 1, 1);
        check.due("no letter waits", x.broken(0), 1);
        x.act(0, 1);
        check.due("the one letter mends it", x.broken(0), 1);
        x.act(1, 1);
        check.due("all orders begin so", x.broken(0), 2);
        check.due("the first of them", x.worst(0, 0), 0);
        check.due("and its second", x.worst(0, 1), 1);
        x.deliver(0);
        check.due("mended", x.broken(0), 0);
    }

    private static void brokenBehindTheFirst() {
        check.sentence("at some moment (.., and behind each)");
        PartedHouse x = senders();
        lawOf(x, 0, 1, 1, 1);
        x.act(0, 2);
        x.act(1, -1);
        x.act(2, -1);
        check.due("if the first is not the first", x.broken(0), 4);
        check.row("worst", i -> x.worst(0, i), 1, 0, 2, Check.BAD);
    }

    private static void brokenBehindTheLast() {
        check.sentence("at some moment (.., and behind each)");
        PartedHouse x = senders();
        lawOf(x, -2, -1, -1, -1);
        x.act(0, 1);
        x.act(1, 1);
        check.due("two", x.broken(0), 0);
        x.act(2, 1);
        check.due("three, behind the last of any order", x.broken(0), 6);
        check.row("worst", i -> x.worst(0, i), 0, 1, 2, Check.BAD);
    }

    private static void brokenInTheMiddle() {
        check.sentence("in how many of these a LAW does not hold at some moment");
        PartedHouse x = senders();
        lawOf(x, 0, 1, -1);
        x.act(0, 1);
        x.act(1, 1);
        check.due("holds now", x.holds(0, 1), 1);
        check.due("one of two", x.broken(0), 1);
        check.row("worst", i -> x.worst(0, i), 1, 0, Check.BAD);
        for (int c = 2; c < 6; c++) {
            x.act(c, 1);
        }
        check.due("half of 720", x.broken(0), 360);
        x.settle();
        check.due("holds then", x.holds(0, 1), 1);
        check.due("none on its way", x.broken(0), 0);
    }

    private static void neverBroken() {
        check.sentence("ORDERS: in how many.");
        PartedHouse x = senders();
        lawOf(x, 0, 1, 1);
        check.due("no letter waits", x.broken(0), 0);
        x.act(0, 0);
        x.act(1, 0);
        check.due("in none of two", x.broken(0), 0);
        check.due("no worst", x.worst(0, 0), Check.BAD);
    }

    private static void brokenOfNone() {
        check.sentence("ORDERS: in how many. BAD");
        PartedHouse x = senders();
        check.each("without laws, broken(law)", Check.BAD, x::broken, Check.outside(0, -1));
        x.law(1);
        x.law(1);
        check.each("broken(law)", Check.BAD, x::broken, Check.outside(0, 1));
        check.row("broken(law)", x::broken, 1, 1, Check.BAD);
    }

    private static void theFirstSuchOrder() {
        check.sentence("WORST of them: the first such order (by the numbers of LETTERS)");
        PartedHouse x = senders();
        lawOf(x, 0, 1, 1, 1, 1);
        x.act(0, 3);
        x.act(1, -1);
        x.act(2, -3);
        x.act(3, 5);
        check.row("0 and 1 hold, 2 breaks", i -> x.worst(0, i), 0, 1, 2, 3, Check.BAD);
        x.deliver(3);
        check.row("none can break", i -> x.worst(0, i), Check.BAD, Check.BAD, Check.BAD);
        PartedHouse y = senders();
        lawOf(y, 0, 1, 1, 0, 1);
        y.act(3, 2);
        y.act(2, 0);
        y.act(0, -1);
        y.act(1, -1);
        check.row("only without the first", i -> y.worst(0, i), 1, 2, 0, 3, Check.BAD);
    }

    private static void byTheNumbersOfLetters() {
        check.sentence("the first such order (by the numbers of LETTERS)");
        PartedHouse x = senders();
        lawOf(x, 1);
        x.act(7, 1);
        x.act(0, 1);
        x.act(5, 1);
        x.act(1, 1);
        x.deliver(1);
        check.row("not by their cells, and of those that wait alone", i -> x.worst(0, i), 0, 2, 3, Check.BAD);
        x.act(0, 1);
        check.row("one more", i -> x.worst(0, i), 0, 2, 3, 4, Check.BAD);
    }

    private static void aWorstOrderKeepsCellsInOrder() {
        check.sentence("those to one and the same cell in the order of their numbers");
        PartedHouse x = senders();
        lawOf(x, 0, 1, 1);
        x.act(1, 1);
        x.act(0, 3);
        x.act(0, -1);
        check.due("3 and -1 in their order: only if 1 comes last", x.broken(0), 1);
        check.row("worst", i -> x.worst(0, i), 1, 2, 0, Check.BAD);
        PartedHouse y = senders();
        lawOf(y, 0, 1);
        y.act(0, -1);
        y.act(0, 5);
        check.due("the one order", y.broken(0), 1);
        check.row("its letters", i -> y.worst(0, i), 0, 1, Check.BAD);
        PartedHouse z = senders();
        lawOf(z, 0, 1);
        z.act(0, 5);
        z.act(0, 0);
        check.due("an order that can't be would not break it either", z.broken(0), 0);
    }

    private static void worstOfNoLaw() {
        check.sentence("BAD: no such LAW");
        PartedHouse x = senders();
        check.each("without laws, worst(law, 0)", Check.BAD, law -> x.worst(law, 0), Check.outside(0, -1));
        x.law(1);
        x.law(1);
        x.act(0, 1);
        check.each("worst(law, 0)", Check.BAD, law -> x.worst(law, 0), Check.outside(0, 1));
        check.row("worst(law, 0)", law -> x.worst(law, 0), 0, 0, Check.BAD);
    }

    private static void worstPastTheOrder() {
        check.sentence("BAD: there is none such");
        PartedHouse x = senders();
        x.law(1);
        check.each("of no letters, worst(0, i)", Check.BAD, i -> x.worst(0, i), Check.outside(0, -1));
        for (int c = 0; c < 6; c++) {
            x.act(c, 1);
            check.each("of " + (c + 1) + ", worst(0, i)", Check.BAD, i -> x.worst(0, i), Check.outside(0, c));
            check.due("its last", x.worst(0, c), c);
        }
    }

    private static void worstOfNone() {
        check.sentence("BAD: .., or none is broken.");
        PartedHouse x = senders();
        x.law(0);
        check.each("no letter waits, worst(0, i)", Check.BAD, i -> x.worst(0, i), 0, 1, -1);
        x.act(0, 1);
        x.act(1, 1);
        check.each("two wait, worst(0, i)", Check.BAD, i -> x.worst(0, i), 0, 1, 2, -1);
    }

    private static void bigOfEach() {
        check.sentence("(at most 6, else BIG)");
        PartedHouse x = senders();
        x.law(1);
        x.law(0);
        for (int c = 0; c < 6; c++) {
            x.act(c, 1);
        }
        check.due("six, broken(0)", x.broken(0), 720);
        check.due("six, broken(1)", x.broken(1), 0);
        check.due("six, worst(0, 5)", x.worst(0, 5), 5);
        check.due("six, worst(1, 0)", x.worst(1, 0), Check.BAD);
        x.act(6, 1);
        check.row("seven, broken(law)", x::broken, Check.BIG, Check.BIG, Check.BAD);
        check.each("seven, worst(0, i)", Check.BIG, i -> x.worst(0, i), 0, 6, 7, -1);
        check.due("seven, worst of a law that holds", x.worst(1, 0), Check.BIG);
        check.due("seven, orders()", x.orders(), Check.BIG);
        check.due("seven, holds(1, 1)", x.holds(1, 1), 1);
    }

    private static void questionsChangeNothing() {
        check.sentence("ORDERS: of the WAITING LETTERS .. all orders in which they can come");
        PartedHouse x = senders();
        lawOf(x, 0, 1);
        x.act(0, 4);
        x.act(1, 5);
        x.broken(0);
        x.worst(0, 0);
        x.orders();
        check.due("both wait", x.count(7), 2);
        check.due("cell 0", x.cell(1, 0, 0), 0);
        check.due("cell 1", x.cell(1, 0, 1), 0);
        check.due("settle()", x.settle(), 2);
        check.due("cell 0 then", x.cell(1, 0, 0), 4);
    }
}
