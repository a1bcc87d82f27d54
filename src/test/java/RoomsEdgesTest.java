/** The sentences on rooms, prices, cuts and rings that name a boundary case: promises 11 to 17. */
public final class RoomsEdgesTest {
    private static final Check check = new Check();

    public static void main(String[] args) {
        sixRooms();
        roomZeroAtFirst();
        tablesAreInTheirHomesRoom();
        roomsOfNoModule();
        noRoomWhileALetterWaits();
        weightsOfFour();
        weightsUpTo99();
        weightsOfOneAtFirst();
        howTwoAreTold();
        toldOfEither();
        oneAndTheSame();
        toldOfNoModule();
        priceOfACall();
        priceOfARead();
        priceOfAWrite();
        priceOfAnActOfSeveralRooms();
        priceForEachRoomAboveOne();
        priceOfEachSetOfHomes();
        priceByTheCounts();
        priceOfNothing();
        cutIntoOneToSix();
        cutWithMostOf();
        sizesTogether();
        toldTogether();
        toldApart();
        nineModules();
        roomsMayStayEmpty();
        theLeastPrice();
        theLeastPriceOfActs();
        theFirstOfSeveral();
        noneSuch();
        cutWithoutModules();
        roomsStay();
        putBeforeAny();
        putOfNoModule();
        putOfTheLatest();
        ringOfTwoOrMore();
        ringOfUnlikeRooms();
        ringOfSix();
        ringWithTheLeast();
        theFirstRing();
        ringOfTextTies();
        noSuchPlaceInTheRing();
        check.end();
    }

    private static void puts(PartedHouse x, String call, int... rooms) {
        for (int m = 0; m < rooms.length; m++) {
            check.due(call + ", put(" + m + ")", x.put(m), rooms[m]);
        }
        check.due(call + ", put past the last", x.put(rooms.length), Check.BAD);
    }

    private static void rings(PartedHouse x, String call, int... rooms) {
        for (int i = 0; i < rooms.length; i++) {
            check.due(call + ", ring(" + i + ")", x.ring(i), rooms[i]);
        }
        check.due(call + ", ring past the last", x.ring(rooms.length), Check.BAD);
    }

    private static PartedHouse eachInItsRoom(int modules) {
        PartedHouse x = Check.house(modules);
        for (int m = 0; m < modules; m++) {
            x.room(m, m % 6);
        }
        return x;
    }

    private static void sixRooms() {
        check.sentence("ROOMS 0 .. 5");
        PartedHouse x = Check.house(1);
        check.each("room(0, room)", Check.BAD, r -> x.room(0, r), Check.outside(0, 5));
        check.row("room(0, the next)", r -> x.room(0, r), 0, 0, 1, 2, 3, 4, Check.BAD);
        check.due("it was in the last", x.room(0, 0), 5);
    }

    private static void roomZeroAtFirst() {
        check.sentence("each MODULE is in one (all in ROOM 0 at first)");
        PartedHouse x = new PartedHouse();
        for (int m = 0; m < 10; m++) {
            x.module(1);
            check.due("module " + m, x.room(m, 5), 0);
        }
        check.each("and now", 5, m -> x.room(m, 5), 0, 1, 2, 3, 4, 5, 6, 7, 8, 9);
    }

    private static void tablesAreInTheirHomesRoom() {
        check.sentence("TABLES are in that of their HOME");
        PartedHouse x = Check.house(3);
        x.table(2);
        x.room(2, 4);
        Check.lines(x, 0, Check.WRITE, 0, 0, Check.WRITE, 1, 0, Check.WRITE, 2, 0, Check.WRITE, 3, 0);
        x.act(0, 1);
        check.due("two are in another room", x.count(6), 2);
        check.due("the one", x.letter(0, 0), 2);
        check.due("its room", x.letter(0, 4), 4);
        check.due("the other", x.letter(1, 0), 3);
        check.due("its room", x.letter(1, 4), 4);
    }

    private static void roomsOfNoModule() {
        check.sentence("A MODULE is in a ROOM: in which it was. BAD");
        PartedHouse x = Check.house(2);
        check.each("room(module, 1)", Check.BAD, m -> x.room(m, 1), Check.outside(0, 1));
        check.row("none was moved", m -> x.room(m, 1), 0, 0, Check.BAD);
        x.module(1);
        check.due("one that came later", x.room(2, 1), 0);
    }

    private static void noRoomWhileALetterWaits() {
        check.sentence("NOT: a LETTER waits.");
        PartedHouse x = eachInItsRoom(3);
        Check.lines(x, 0, Check.WRITE, 1, 0, Check.WRITE, 1, 1);
        x.act(0, 3);
        check.each("two wait, room(module, 4)", Check.NOT, m -> x.room(m, 4), 0, 1, 2);
        check.due("the room in which it is", x.room(1, 1), Check.NOT);
        x.deliver(1);
        check.each("one waits, room(module, 4)", Check.NOT, m -> x.room(m, 4), 0, 1, 2);
        x.image(0);
        x.deliver(0);
        check.row("none waits, room(module, 5)", m -> x.room(m, 5), 0, 1, 2);
        x.restore(0);
        check.due("one waits again", x.room(0, 4), Check.NOT);
        x.sync();
        check.row("none waits since sync, rooms as restored", m -> x.room(m, 5), 0, 1, 2);
    }

    private static void weightsOfFour() {
        check.sentence("A WEIGHT (what 0 .. 3): what it was. BAD.");
        PartedHouse x = new PartedHouse();
        check.each("weight(what, 5)", Check.BAD, what -> x.weight(what, 5), Check.outside(0, 3));
        check.row("weight(what, 5)", what -> x.weight(what, 5), 1, 1, 1, 1, Check.BAD);
    }

    private static void weightsUpTo99() {
        check.sentence("WEIGHTS (0 .. 99 each; ..)");
        for (int which = 0; which < 4; which++) {
            int what = which;
            PartedHouse x = new PartedHouse();
            check.each("weight(" + what + ", w)", Check.BAD, w -> x.weight(what, w), Check.outside(0, 99));
            check.due("weight(" + what + ", 99)", x.weight(what, 99), 1);
            check.due("weight(" + what + ", 0)", x.weight(what, 0), 99);
            check.due("weight(" + what + ", 1)", x.weight(what, 1), 0);
        }
    }

    private static void weightsOfOneAtFirst() {
        check.sentence("WEIGHTS (..; 1 at first)");
        PartedHouse x = eachInItsRoom(2);
        Check.lines(x, 0, Check.CALL, 1, 0, Check.READ, 1, 0, Check.WRITE, 1, 0, Check.WRITE, 0, 0);
        x.run(0, 1);
        check.due("a CALL, a READ, a WRITE, an ACT", x.price(), 4);
        check.row("weight(what, 1)", what -> x.weight(what, 1), 1, 1, 1, 1);
    }

    private static void howTwoAreTold() {
        check.sentence("TOGETHER (how 1), APART (2), neither (0; ..): what they were. BAD");
        PartedHouse x = Check.house(2);
        check.each("tell(0, 1, how)", Check.BAD, how -> x.tell(0, 1, how), Check.outside(0, 2));
        check.due("neither at first", x.tell(0, 1, 1), 0);
        check.due("together", x.tell(0, 1, 2), 1);
        check.due("apart", x.tell(0, 1, 0), 2);
        check.due("neither", x.tell(0, 1, 0), 0);
    }

    private static void toldOfEither() {
        check.sentence("(0; told of either, it is of both)");
        PartedHouse x = Check.house(3);
        check.due("tell(0, 2, 1)", x.tell(0, 2, 1), 0);
        check.due("tell(2, 0, 2)", x.tell(2, 0, 2), 1);
        check.due("tell(0, 2, 0)", x.tell(0, 2, 0), 2);
        check.due("tell(2, 0, 1)", x.tell(2, 0, 1), 0);
        check.due("others stay", x.tell(0, 1, 0), 0);
        check.due("others stay, too", x.tell(2, 1, 0), 0);
        check.due("a cut keeps to what was told backwards", x.cut(2, 1), Check.NOT);
        x.tell(2, 0, 0);
        check.due("neither any more", x.cut(3, 1), 0);
    }

    private static void oneAndTheSame() {
        check.sentence("BAD (also one and the same).");
        PartedHouse x = Check.house(3);
        for (int how = 0; how <= 2; how++) {
            int told = how;
            check.each("tell(m, m, " + how + ")", Check.BAD, m -> x.tell(m, m, told), 0, 1, 2, 3, -1);
        }
        check.due("it is not apart from itself", x.cut(1, 3), 0);
    }

    private static void toldOfNoModule() {
        check.sentence("Two MODULES are TOGETHER .. BAD");
        PartedHouse x = Check.house(2);
        check.each("tell(a, 1, 1)", Check.BAD, a -> x.tell(a, 1, 1), Check.outside(0, 1));
        check.each("tell(0, b, 1)", Check.BAD, b -> x.tell(0, b, 1), Check.outside(0, 1));
        check.due("nothing was told", x.tell(0, 1, 0), 0);
        x.module(1);
        check.due("one that came later", x.tell(0, 2, 1), 0);
    }

    private static void priceOfACall() {
        check.sentence("0 of a CALL .. between unlike ROOMS");
        PartedHouse x = Check.house(2);
        x.weight(0, 7);
        Check.lines(x, 0, Check.CALL, 1, 0, Check.CALL, 1, 0, Check.CALL, 1, 0);
        x.run(0, 1);
        check.due("in one room", x.price(), 0);
        x.room(0, 5);
        check.due("between two", x.price(), 21);
        x.room(1, 5);
        check.due("in another one", x.price(), 0);
    }

    private static void priceOfARead() {
        check.sentence("1 of a READ .. between unlike ROOMS");
        PartedHouse x = Check.house(2);
        x.weight(1, 7);
        Check.lines(x, 0, Check.READ, 1, 0, Check.MORE, 1, 1, Check.LESS, 1, 2, Check.READ, 0, 0);
        x.run(0, 1);
        check.due("in one room", x.price(), 0);
        x.room(1, 5);
        check.due("between two", x.price(), 21);
        x.room(0, 5);
        check.due("in another one", x.price(), 0);
    }

    private static void priceOfAWrite() {
        check.sentence("2 of a WRITE between unlike ROOMS");
        PartedHouse x = Check.house(2);
        x.weight(2, 7);
        Check.lines(x, 0, Check.WRITE, 1, 0, Check.WRITE, 1, 0);
        x.run(0, 1);
        check.due("in one room", x.price(), 0);
        x.room(1, 5);
        check.due("between two, one ROOM's tables alone", x.price(), 14);
        x.room(0, 5);
        check.due("in another one", x.price(), 0);
    }

    private static void priceOfAnActOfSeveralRooms() {
        check.sentence("3 of an ACT that wrote TABLES of several ROOMS");
        PartedHouse x = eachInItsRoom(3);
        x.weight(0, 0);
        x.weight(2, 0);
        x.weight(3, 10);
        x.table(0);
        Check.lines(x, 0, Check.WRITE, 1, 0, Check.WRITE, 1, 1);
        x.run(0, 1);
        check.due("of one ROOM, though not its own", x.price(), 0);
        x.clear(0);
        Check.lines(x, 0, Check.WRITE, 0, 0, Check.WRITE, 3, 0);
        x.run(0, 1);
        check.due("of two TABLES of one ROOM", x.price(), 0);
        x.clear(0);
        Check.lines(x, 0, Check.WRITE, 0, 0, Check.CALL, 1, 0);
        Check.lines(x, 1, Check.WRITE, 1, 0);
        x.run(0, 1);
        check.due("of two ROOMS, by two routines", x.price(), 10);
        x.run(0, 1);
        check.due("by two acts", x.price(), 20);
        x.clear(0);
        Check.lines(x, 0, Check.READ, 0, 0, Check.READ, 1, 0, Check.READ, 2, 0);
        x.weight(1, 0);
        x.run(0, 1);
        check.due("reads are no writes", x.price(), 20);
    }

    private static void priceForEachRoomAboveOne() {
        check.sentence("for each ROOM above one");
        for (int rooms = 0; rooms <= 6; rooms++) {
            PartedHouse x = eachInItsRoom(6);
            x.weight(2, 0);
            x.weight(3, 99);
            for (int t = 0; t < rooms; t++) {
                Check.lines(x, 0, Check.WRITE, t, 0);
            }
            x.run(0, 1);
            check.due("of " + rooms + " ROOMS", x.price(), 99 * Math.max(0, rooms - 1));
        }
        PartedHouse y = eachInItsRoom(10);
        y.weight(2, 0);
        for (int t = 0; t < 10; t++) {
            Check.lines(y, 0, Check.WRITE, t, 0);
        }
        y.run(0, 1);
        check.due("of ten homes in 6 ROOMS", y.price(), 5);
    }

    private static void priceOfEachSetOfHomes() {
        check.sentence("of each set of HOMES whose TABLES an ACT wrote");
        PartedHouse x = eachInItsRoom(5);
        x.weight(2, 0);
        long due = 0;
        for (int set = 0; set < 32; set++) {
            int routine = x.routine(0);
            for (int t = 0; t < 5; t++) {
                if ((set >> t & 1) != 0) {
                    Check.lines(x, routine, Check.WRITE, t, 0);
                }
            }
            x.run(routine, 1);
            due += Math.max(0, Integer.bitCount(set) - 1);
            check.due("the set " + set + " and those ahead of it", x.price(), due);
        }
        x.image(0);
        x.run(36, 1);
        check.due("the last set again", x.price(), due + 4);
        x.restore(0);
        check.due("as it was", x.price(), due);
        x.room(4, 3);
        check.due("two homes in one room", x.price(), due - 8);
        check.due("one alone is the cheapest to part", x.cut(2, 4), 15);
    }

    private static void priceByTheCounts() {
        check.sentence("PRICE of some ROOMS: all these, by the counts, with the WEIGHTS");
        PartedHouse x = eachInItsRoom(2);
        Check.repeat(x, 0, 16, Check.WRITE, 1, 0);
        for (int what = 0; what < 4; what++) {
            x.weight(what, 99);
        }
        check.due("of no act", x.price(), 0);
        for (int i = 0; i < 400; i++) {
            x.run(0, i);
        }
        check.due("of 400 acts", x.price(), 400L * 16 * 99);
        x.weight(2, 0);
        check.due("with weights of 0", x.price(), 0);
    }

    private static void priceOfNothing() {
        check.sentence("PRICE of the ROOMS as they are.");
        PartedHouse x = new PartedHouse();
        check.due("without modules", x.price(), 0);
        x.module(1);
        check.due("without acts", x.price(), 0);
        x.routine(0);
        x.run(0, 1);
        check.due("of an act that does nothing", x.price(), 0);
    }

    private static void cutIntoOneToSix() {
        check.sentence("for told R (1 .. 6) ROOMS");
        PartedHouse x = Check.house(6);
        check.each("cut(r, 6)", Check.BAD, r -> x.cut(r, 6), Check.outside(1, 6));
        for (int a = 0; a < 6; a++) {
            for (int b = 0; b < a; b++) {
                x.tell(a, b, 2);
            }
        }
        check.row("six apart, cut(r + 1, 6)", r -> x.cut(r + 1, 6), Check.NOT, Check.NOT, Check.NOT, Check.NOT, Check.NOT,
            0, Check.BAD);
        puts(x, "six apart", 0, 1, 2, 3, 4, 5);
        x.module(1);
        check.due("a seventh with them", x.cut(6, 2), 0);
        x.tell(0, 6, 2);
        check.due("apart from the first", x.cut(6, 2), 0);
        puts(x, "apart from the first", 0, 1, 2, 3, 4, 5, 1);
        for (int m = 1; m < 6; m++) {
            x.tell(6, m, 2);
        }
        check.due("seven apart", x.cut(6, 7), Check.NOT);
        PartedHouse y = Check.house(1);
        check.due("cut(1, 1)", y.cut(1, 1), 0);
    }

    private static void cutWithMostOf() {
        check.sentence("BAD (most 1 .. 9999)");
        PartedHouse x = Check.house(1);
        check.each("cut(1, most)", Check.BAD, most -> x.cut(1, most), Check.outside(1, 9999));
        check.each("cut(1, most)", 0, most -> x.cut(1, most), 1, 2, 9998, 9999);
    }

    private static void sizesTogether() {
        check.sentence("each of them with SIZES together at most MOST");
        PartedHouse x = new PartedHouse();
        for (int m = 0; m < 9; m++) {
            x.module(99);
        }
        check.due("all in one, as many as fit", x.cut(1, 891), 0);
        check.due("all in one, one too many", x.cut(1, 890), Check.NOT);
        check.due("three in each of three", x.cut(3, 297), 0);
        puts(x, "three in each", 0, 0, 0, 1, 1, 1, 2, 2, 2);
        check.due("two in each of three are too few", x.cut(3, 296), Check.NOT);
        check.due("two in each of five", x.cut(5, 198), 0);
        puts(x, "two in each", 0, 0, 1, 1, 2, 2, 3, 3, 4);
        check.due("one in each of six", x.cut(6, 99), Check.NOT);
        check.due("not even one", x.cut(6, 98), Check.NOT);
    }

    private static void toldTogether() {
        check.sentence("MODULES told TOGETHER in one ROOM");
        PartedHouse x = Check.house(4);
        x.tell(3, 0, 1);
        check.due("two in a room", x.cut(2, 2), 0);
        puts(x, "0 and 3 together", 0, 1, 1, 0);
        x.tell(2, 3, 1);
        check.due("three together, two in a room", x.cut(4, 2), Check.NOT);
        check.due("three together, three in a room", x.cut(2, 3), 0);
        puts(x, "0, 2 and 3 together", 0, 1, 0, 0);
        x.tell(0, 2, 2);
        check.due("together by a third, and apart", x.cut(6, 9), Check.NOT);
    }

    private static void toldApart() {
        check.sentence("those told APART not");
        PartedHouse x = Check.house(3);
        Check.lines(x, 0, Check.CALL, 2, 0);
        x.run(0, 1);
        x.tell(0, 2, 2);
        check.due("in one room", x.cut(1, 9), Check.NOT);
        check.due("in two, at a price", x.cut(2, 9), 1);
        puts(x, "0 and 2 apart", 0, 0, 1);
        x.tell(0, 2, 0);
        check.due("not any more", x.cut(1, 9), 0);
    }

    private static void nineModules() {
        check.sentence("MODULES (9 at most; else BIG)");
        PartedHouse x = Check.house(9);
        check.due("nine", x.cut(6, 9), 0);
        puts(x, "nine", 0, 0, 0, 0, 0, 0, 0, 0, 0);
        x.module(1);
        check.due("ten", x.cut(6, 9), Check.BIG);
        check.due("ten, with room for all", x.cut(1, 9999), Check.BIG);
        puts(x, "ten", 0, 0, 0, 0, 0, 0, 0, 0, 0);
    }

    private static void roomsMayStayEmpty() {
        check.sentence("(some may stay empty)");
        PartedHouse x = Check.house(2);
        check.due("two in six", x.cut(6, 2), 0);
        puts(x, "two in six", 0, 0);
        check.due("each alone in six", x.cut(6, 1), 0);
        puts(x, "each alone in six", 0, 1);
    }

    private static void theLeastPrice() {
        check.sentence("that of the least PRICE");
        PartedHouse x = Check.house(4);
        Check.lines(x, 0, Check.CALL, 3, 0, Check.CALL, 3, 0, Check.CALL, 1, 0);
        x.run(0, 1);
        check.due("two in a room", x.cut(2, 2), 1);
        puts(x, "two in a room", 0, 1, 1, 0);
        check.due("three in a room", x.cut(2, 3), 0);
        puts(x, "three in a room", 0, 0, 1, 0);
        x.weight(0, 0);
        check.due("without weight", x.cut(2, 2), 0);
        puts(x, "without weight", 0, 0, 1, 1);
    }

    private static void theLeastPriceOfActs() {
        check.sentence("that of the least PRICE");
        PartedHouse x = Check.house(4);
        x.weight(2, 0);
        Check.lines(x, 0, Check.WRITE, 0, 0, Check.WRITE, 2, 0);
        Check.lines(x, 1, Check.WRITE, 1, 0, Check.WRITE, 2, 0, Check.WRITE, 3, 0);
        x.run(0, 1);
        check.due("one act of 0 and 2", x.cut(2, 2), 0);
        puts(x, "one act of 0 and 2", 0, 1, 0, 1);
        x.run(1, 1);
        x.run(1, 1);
        check.due("two acts of 1, 2 and 3", x.cut(2, 3), 1);
        puts(x, "two acts of 1, 2 and 3", 0, 1, 1, 1);
        check.due("two in a room", x.cut(2, 2), 2);
        puts(x, "two in a room", 0, 1, 0, 1);
        x.weight(3, 50);
        check.due("with a weight", x.cut(4, 1), 50 + 2 * 2 * 50);
        puts(x, "with a weight", 0, 1, 2, 3);
        x.weight(3, 0);
        check.due("without one", x.cut(2, 3), 0);
        puts(x, "without one", 0, 0, 0, 1);
    }

    private static void theFirstOfSeveral() {
        check.sentence("of several the first: at the least MODULE in which they differ the lesser ROOM");
        PartedHouse x = Check.house(4);
        x.tell(0, 1, 2);
        check.due("apart", x.cut(6, 4), 0);
        puts(x, "apart", 0, 1, 0, 0);
        x.tell(0, 2, 2);
        check.due("two apart from the first", x.cut(6, 4), 0);
        puts(x, "two apart from the first", 0, 1, 1, 0);
        x.tell(1, 2, 2);
        check.due("three apart", x.cut(6, 4), 0);
        puts(x, "three apart", 0, 1, 2, 0);
        Check.lines(x, 3, Check.CALL, 1, 0, Check.CALL, 2, 0);
        x.run(3, 1);
        check.due("1 or 2 at the same price", x.cut(6, 4), 1);
        puts(x, "1 or 2 at the same price", 0, 1, 2, 1);
    }

    private static void noneSuch() {
        check.sentence("NOT: there is none.");
        PartedHouse x = Check.house(3);
        check.due("too small", x.cut(2, 1), Check.NOT);
        x.tell(0, 1, 1);
        check.due("together, too small", x.cut(6, 1), Check.NOT);
        check.due("together", x.cut(2, 2), 0);
        x.tell(0, 1, 2);
        x.tell(1, 2, 2);
        x.tell(0, 2, 2);
        check.due("three apart in two", x.cut(2, 9), Check.NOT);
        check.due("three apart in three", x.cut(3, 9), 0);
    }

    private static void cutWithoutModules() {
        check.sentence("of all ways to put the MODULES");
        PartedHouse x = new PartedHouse();
        check.due("there is one way to put none", x.cut(1, 1), 0);
        check.due("put(0)", x.put(0), Check.BAD);
        x.module(1);
        check.due("a module that came later", x.put(0), Check.BAD);
    }

    private static void roomsStay() {
        check.sentence("CUT: its PRICE; ROOMS stay as they are.");
        PartedHouse x = eachInItsRoom(3);
        check.due("cut(1, 3)", x.cut(1, 3), 0);
        check.row("room(module, 0)", m -> x.room(m, 0), 0, 1, 2);
    }

    private static void putBeforeAny() {
        check.sentence("BAD: none such .., or before any.");
        PartedHouse x = Check.house(2);
        check.each("before any cut", Check.BAD, x::put, 0, 1);
        x.cut(0, 1);
        x.cut(1, 0);
        check.each("before any cut but BAD ones", Check.BAD, x::put, 0, 1);
        x.cut(1, 1);
        check.each("before any cut but one without a way", Check.BAD, x::put, 0, 1);
        PartedHouse y = Check.house(10);
        y.cut(6, 9);
        check.each("before any cut but a BIG one", Check.BAD, y::put, 0, 9);
    }

    private static void putOfNoModule() {
        check.sentence("BAD: none such (also a MODULE that came later)");
        PartedHouse x = Check.house(2);
        x.cut(2, 1);
        check.each("put(module)", Check.BAD, x::put, Check.outside(0, 1));
        puts(x, "as it was cut", 0, 1);
        x.module(1);
        check.due("one that came later", x.put(2), Check.BAD);
        x.cut(2, 2);
        puts(x, "cut with it", 0, 0, 1);
    }

    private static void putOfTheLatest() {
        check.sentence("The ROOM of a MODULE by the latest cut() that was not refused.");
        PartedHouse x = Check.house(3);
        x.cut(3, 1);
        puts(x, "the first", 0, 1, 2);
        x.cut(7, 3);
        x.cut(3, 10000);
        puts(x, "behind BAD ones", 0, 1, 2);
        x.tell(0, 1, 1);
        x.cut(3, 1);
        puts(x, "behind one without a way", 0, 1, 2);
        x.room(0, 4);
        puts(x, "behind another room", 0, 1, 2);
        x.cut(3, 2);
        puts(x, "the second", 0, 0, 1);
        for (int m = 3; m < 10; m++) {
            x.module(1);
        }
        x.cut(3, 9);
        puts(x, "behind a BIG one", 0, 0, 1);
    }

    private static void ringOfTwoOrMore() {
        check.sentence("(k 2 or more, ..)");
        PartedHouse x = eachInItsRoom(2);
        Check.lines(x, 0, Check.CALL, 0, 0);
        rings(x, "a room that calls itself");
        Check.lines(x, 0, Check.CALL, 1, 0);
        rings(x, "one way alone");
        Check.lines(x, 1, Check.CALL, 0, 0);
        rings(x, "both ways", 0, 1);
        x.room(1, 0);
        rings(x, "both ways in one room");
    }

    private static void ringOfUnlikeRooms() {
        check.sentence("(k 2 or more, unlike but for that)");
        PartedHouse x = Check.house(4);
        x.room(1, 1);
        x.room(2, 2);
        x.room(3, 1);
        Check.lines(x, 0, Check.CALL, 1, 0);
        Check.lines(x, 3, Check.CALL, 2, 0);
        rings(x, "0 to 1 to 2");
        Check.lines(x, 2, Check.CALL, 0, 0);
        rings(x, "by two modules of one room", 0, 1, 2);
        Check.lines(x, 2, Check.CALL, 2, 0);
        rings(x, "a room that calls itself is no step", 0, 1, 2);
    }

    private static void ringOfSix() {
        check.sentence("ROOMS r0, r1, .. rk = r0");
        PartedHouse x = eachInItsRoom(6);
        int[] order = {0, 5, 1, 4, 2, 3};
        for (int i = 0; i < 5; i++) {
            Check.lines(x, order[i], Check.CALL, order[i + 1], 0);
        }
        rings(x, "a chain of six");
        Check.lines(x, 3, Check.CALL, 0, 0);
        rings(x, "all six", 0, 5, 1, 4, 2, 3);
    }

    private static void ringWithTheLeast() {
        check.sentence("the one with the least k");
        PartedHouse x = eachInItsRoom(6);
        Check.lines(x, 0, Check.CALL, 1, 0);
        Check.lines(x, 1, Check.CALL, 2, 0);
        Check.lines(x, 2, Check.CALL, 3, 0);
        Check.lines(x, 3, Check.CALL, 0, 0);
        rings(x, "four", 0, 1, 2, 3);
        Check.lines(x, 3, Check.CALL, 1, 0);
        rings(x, "three, with a greater first room", 1, 2, 3);
        Check.lines(x, 5, Check.CALL, 4, 0);
        Check.lines(x, 4, Check.CALL, 5, 0);
        rings(x, "two, with a still greater first room", 4, 5);
    }

    private static void theFirstRing() {
        check.sentence("of these the first (the lesser first ROOM, then the second one, ..)");
        PartedHouse x = eachInItsRoom(6);
        Check.lines(x, 5, Check.CALL, 4, 0);
        Check.lines(x, 4, Check.CALL, 5, 0);
        Check.lines(x, 1, Check.CALL, 3, 0);
        Check.lines(x, 3, Check.CALL, 1, 0);
        rings(x, "the lesser first room", 1, 3);
        Check.lines(x, 1, Check.CALL, 2, 0);
        Check.lines(x, 2, Check.CALL, 1, 0);
        rings(x, "the lesser second room", 1, 2);
        PartedHouse y = eachInItsRoom(5);
        Check.lines(y, 0, Check.CALL, 1, 0);
        Check.lines(y, 1, Check.CALL, 4, 0, Check.CALL, 3, 0);
        Check.lines(y, 3, Check.CALL, 0, 0);
        Check.lines(y, 4, Check.CALL, 0, 0);
        rings(y, "the lesser third room", 0, 1, 3);
    }

    private static void ringOfTextTies() {
        check.sentence("with a TEXT TIE of a CALL from a MODULE of each to one of the next");
        PartedHouse x = eachInItsRoom(2);
        Check.lines(x, 0, Check.SET, 0, 0, Check.SKIP, 15, 0, Check.CALL, 1, 0);
        Check.lines(x, 1, Check.READ, 0, 0, Check.WRITE, 0, 0);
        rings(x, "reads and writes are no calls");
        Check.lines(x, 1, Check.CALL, 0, 0);
        x.run(0, 1);
        check.due("a call that is never done", x.counted(0, 0, 1), 0);
        rings(x, "it ties", 0, 1);
        x.clear(0);
        rings(x, "it went");
    }

    private static void noSuchPlaceInTheRing() {
        check.sentence("BAD: none such (or there is no RING).");
        PartedHouse x = eachInItsRoom(2);
        check.each("no ring, ring(i)", Check.BAD, x::ring, 0, 1, 2, -1, Check.LEAST, Check.GREATEST);
        Check.lines(x, 0, Check.CALL, 1, 0);
        Check.lines(x, 1, Check.CALL, 0, 0);
        check.each("a ring of two, ring(i)", Check.BAD, x::ring, Check.outside(0, 1));
        rings(x, "a ring of two", 0, 1);
        rings(new PartedHouse(), "without modules");
    }
}
