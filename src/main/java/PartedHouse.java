import java.util.Arrays;

/** A desk that parts one great program into rooms; ../shared/DOC.md says what each call must answer. */
public final class PartedHouse {
    public static final int BAD = -1, NOT = -2, FULL = -3, BIG = -4, FAILED = -2000000000;

    private static final int MODULES = 10, TABLES = 16, ROUTINES = 40, LINES = 16, LAWS = 10, TERMS = 6;
    private static final int TABLE_CELLS = 8, CELLS = TABLES * TABLE_CELLS;
    private static final int ROOMS = 6, IMAGES = 4, CUT_MODULES = 9;
    private static final int MOST_SIZE = 99, MOST_NUMBER = 999, MOST_WEIGHT = 99, MOST_ROOM = 9999, MOST_FACTOR = 9;
    private static final int MOST_DONE = 300, MOST_OPEN = 8;
    private static final int MOST_WAITING = 40, MOST_SENT = 2000, MOST_ORDERED = 6;

    private static final int SET = 0, ADD = 1, READ = 2, WRITE = 3, CALL = 4, SKIP = 5, FAIL = 6, MORE = 7, LESS = 8;

    private static final int CALLS = 0, READS = 1, WRITES = 2, WHOLE = 3, WEIGHTS = 4;
    /** Calls, reads and writes share one row, so that a line's tie is one place in it. */
    private static final int READS_AT = MODULES * MODULES, WRITES_AT = READS_AT + MODULES * TABLES;
    private static final int TIES = WRITES_AT + MODULES * TABLES, NO_TIE = -1;

    private static final int TOGETHER = 1, APART = 2;
    private static final int OLD = 0, NEW = 1;
    private static final int NONE_CAME = 0;
    private static final int UNLIKE_FACTS = 5;

    private final Text text;
    private final Act doer;
    private final Houses now;
    private final Houses[] kept;
    private final int[] keptModules;
    private final int[] keptTables;
    private final int[] weights;
    private final int[] told;
    private final Prices prices;
    private final Cutter cutter;
    private final RingSearch ringSearch;
    private final Laws lawBook;
    private final Arrivals arrivals;

    public PartedHouse() {
        text = new Text();
        doer = new Act();
        now = new Houses();
        kept = new Houses[IMAGES];
        keptModules = new int[IMAGES];
        keptTables = new int[IMAGES];
        weights = new int[WEIGHTS];
        Arrays.fill(weights, 1);
        told = new int[MODULES * MODULES];
        prices = new Prices(text, now);
        cutter = new Cutter(text, prices);
        ringSearch = new RingSearch();
        lawBook = new Laws();
        arrivals = new Arrivals();
    }

    // ---- the text

    public int module(int size) {
        if (size < 1 || size > MOST_SIZE) {
            return BAD;
        }
        return text.modules >= MODULES ? FULL : text.addModule(size);
    }

    public int table(int home) {
        if (!text.hasModule(home)) {
            return BAD;
        }
        return text.tables >= TABLES ? FULL : text.addTable(home);
    }

    public int routine(int module) {
        if (!text.hasModule(module)) {
            return BAD;
        }
        return text.routines >= ROUTINES ? FULL : text.addRoutine(module);
    }

    public int line(int routine, int op, int x, int y) {
        if (!text.hasRoutine(routine) || !text.isLine(op, x, y)) {
            return BAD;
        }
        return text.lengths[routine] >= LINES ? FULL : text.addLine(routine, op, x, y);
    }

    public int clear(int routine) {
        return text.hasRoutine(routine) ? text.dropLines(routine) : BAD;
    }

    // ---- the old house

    public int run(int routine, int a) {
        if (!text.hasRoutine(routine)) {
            return BAD;
        }
        return standsInOld(routine, a) ? doer.value : FAILED;
    }

    public int cell(int house, int table, int cell) {
        if (!isHouse(house) || !text.hasCell(table, cell)) {
            return FAILED;
        }
        return now.cellsOf(house)[table * TABLE_CELLS + cell];
    }

    public int counted(int what, int a, int b) {
        return text.hasTiePlace(what, a, b) ? now.counts[tiePlace(what, a, b)] : BAD;
    }

    public int tied(int what, int a, int b) {
        if (!text.hasTiePlace(what, a, b)) {
            return BAD;
        }
        return text.ties[tiePlace(what, a, b)] > 0 ? 1 : 0;
    }

    // ---- rooms

    public int room(int module, int room) {
        if (!text.hasModule(module) || room < 0 || room >= ROOMS) {
            return BAD;
        }
        if (now.letters.waits > 0) {
            return NOT;
        }
        int was = now.rooms[module];
        now.rooms[module] = room;
        return was;
    }

    public int weight(int what, int w) {
        if (what < 0 || what >= WEIGHTS || w < 0 || w > MOST_WEIGHT) {
            return BAD;
        }
        int was = weights[what];
        weights[what] = w;
        return was;
    }

    public int tell(int a, int b, int how) {
        if (!text.hasModule(a) || !text.hasModule(b) || a == b || how < 0 || how > APART) {
            return BAD;
        }
        int was = told[a * MODULES + b];
        told[a * MODULES + b] = how;
        told[b * MODULES + a] = how;
        return was;
    }

    public long price() {
        prices.prepare(weights);
        return prices.of(now.rooms);
    }

    public long cut(int r, int most) {
        if (r < 1 || r > ROOMS || most < 1 || most > MOST_ROOM) {
            return BAD;
        }
        if (text.modules > CUT_MODULES) {
            return BIG;
        }
        prices.prepare(weights);
        return cutter.search(told, r, most) ? cutter.leastPrice : NOT;
    }

    public int put(int module) {
        return module >= 0 && module < cutter.keptModules ? cutter.keptRooms[module] : BAD;
    }

    public int ring(int i) {
        int length = ringSearch.shortest(text, now.rooms);
        return i >= 0 && i < length ? ringSearch.path[i] : BAD;
    }

    // ---- the new house

    public int act(int routine, int a) {
        if (!text.hasRoutine(routine)) {
            return BAD;
        }
        return standsInNew(routine, a) ? doer.value : FAILED;
    }

    public int deliver(int letter) {
        if (!now.letters.knows(letter)) {
            return BAD;
        }
        return now.letters.arrive(letter, now.newCells) ? 1 : 0;
    }

    public int settle() {
        return now.letters.arriveAll(now.newCells);
    }

    public int letter(int letter, int what) {
        return now.letters.knows(letter) ? now.letters.fact(letter, what) : FAILED;
    }

    // ---- laws

    public int law(int least) {
        return lawBook.made >= LAWS ? FULL : lawBook.addLaw(least);
    }

    public int term(int law, int table, int cell, int factor) {
        if (!lawBook.has(law) || !text.hasCell(table, cell) || factor < -MOST_FACTOR || factor > MOST_FACTOR) {
            return BAD;
        }
        return lawBook.lengths[law] >= TERMS ? FULL : lawBook.addTerm(law, table * TABLE_CELLS + cell, factor);
    }

    public int holds(int law, int house) {
        if (!lawBook.has(law) || !isHouse(house)) {
            return BAD;
        }
        return lawBook.standsAfter(law, now.cellsOf(house), arrivals, NONE_CAME) ? 1 : 0;
    }

    public int broken(int law) {
        if (!lawBook.has(law)) {
            return BAD;
        }
        if (now.letters.waits > MOST_ORDERED) {
            return BIG;
        }
        arrivals.gather(now.letters);
        arrivals.watch(lawBook, law, now.newCells);
        return arrivals.ways[NONE_CAME] - arrivals.soundWays[NONE_CAME];
    }

    public int worst(int law, int i) {
        if (!lawBook.has(law)) {
            return BAD;
        }
        if (now.letters.waits > MOST_ORDERED) {
            return BIG;
        }
        arrivals.gather(now.letters);
        arrivals.watch(lawBook, law, now.newCells);
        return arrivals.ofFirstBroken(i);
    }

    public int orders() {
        if (now.letters.waits > MOST_ORDERED) {
            return BIG;
        }
        arrivals.gather(now.letters);
        return arrivals.ways[NONE_CAME];
    }

    // ---- beside

    public int beside(int routine, int a) {
        if (!text.hasRoutine(routine)) {
            return BAD;
        }
        // FAILED is also a number that an act may answer, so whether it stood is kept apart from its answer.
        boolean oldStands = standsInOld(routine, a);
        int oldAnswer = oldStands ? doer.value : FAILED;
        boolean newStands = standsInNew(routine, a);
        int newAnswer = newStands ? doer.value : FAILED;
        boolean alike = oldStands == newStands && oldAnswer == newAnswer;
        if (!alike) {
            now.noteUnlike(routine, a, oldAnswer, newAnswer);
        }
        now.besides++;
        return alike ? 1 : 0;
    }

    public int unlike(int what) {
        if (what < 0 || what >= UNLIKE_FACTS) {
            return BAD;
        }
        return now.hasUnlike ? now.firstUnlike[what] : NOT;
    }

    public int differ() {
        return now.unlikeCells();
    }

    public int sync() {
        int became = now.unlikeCells();
        now.renew();
        return became;
    }

    public int image(int i) {
        if (i < 0 || i >= IMAGES) {
            return BAD;
        }
        if (kept[i] == null) {
            kept[i] = new Houses();
        }
        kept[i].become(now);
        keptModules[i] = text.modules;
        keptTables[i] = text.tables;
        return 1;
    }

    public int restore(int i) {
        if (i < 0 || i >= IMAGES) {
            return BAD;
        }
        if (kept[i] == null || keptModules[i] != text.modules || keptTables[i] != text.tables) {
            return NOT;
        }
        now.become(kept[i]);
        return 1;
    }

    public int count(int what) {
        switch (what) {
            case 0:
                return text.modules;
            case 1:
                return text.tables;
            case 2:
                return text.routines;
            case 3:
                return lawBook.made;
            case 4:
                return now.oldActs;
            case 5:
                return now.newActs;
            case 6:
                return now.letters.sent;
            case 7:
                return now.letters.waits;
            case 8:
                return now.besides;
            default:
                return BAD;
        }
    }

    private boolean standsInOld(int routine, int a) {
        if (!doer.perform(text, routine, a, now.oldCells)) {
            return false;
        }
        now.keepOld(doer, text);
        return true;
    }

    private boolean standsInNew(int routine, int a) {
        return doer.perform(text, routine, a, now.newCells) && now.keepNew(doer, text, text.owners[routine]);
    }

    private static boolean isHouse(int house) {
        return house == OLD || house == NEW;
    }

    private static int tiePlace(int what, int module, int other) {
        if (what == CALLS) {
            return module * MODULES + other;
        }
        return (what == READS ? READS_AT : WRITES_AT) + module * TABLES + other;
    }

    /** The program as it is written, with how many lines make each text tie. */
    private static final class Text {
        final int[] sizes = new int[MODULES];
        final int[] homes = new int[TABLES];
        final int[] owners = new int[ROUTINES];
        final int[] lengths = new int[ROUTINES];
        final int[] ops = new int[ROUTINES * LINES];
        final int[] xs = new int[ROUTINES * LINES];
        final int[] ys = new int[ROUTINES * LINES];
        final int[] ties = new int[TIES];
        int modules;
        int tables;
        int routines;

        boolean hasModule(int module) {
            return module >= 0 && module < modules;
        }

        boolean hasTable(int table) {
            return table >= 0 && table < tables;
        }

        boolean hasRoutine(int routine) {
            return routine >= 0 && routine < routines;
        }

        boolean hasCell(int table, int cell) {
            return hasTable(table) && cell >= 0 && cell < TABLE_CELLS;
        }

        boolean hasTiePlace(int what, int a, int b) {
            if (what < CALLS || what > WRITES || !hasModule(a)) {
                return false;
            }
            return what == CALLS ? hasModule(b) : hasTable(b);
        }

        boolean isLine(int op, int x, int y) {
            switch (op) {
                case SET:
                case ADD:
                    return x >= -MOST_NUMBER && x <= MOST_NUMBER && y == 0;
                case READ:
                case WRITE:
                case MORE:
                case LESS:
                    return hasCell(x, y);
                case CALL:
                    return hasRoutine(x) && y == 0;
                case SKIP:
                    return x >= 1 && x < LINES && y == 0;
                case FAIL:
                    return x == 0 && y == 0;
                default:
                    return false;
            }
        }

        int addModule(int size) {
            sizes[modules] = size;
            return modules++;
        }

        int addTable(int home) {
            homes[tables] = home;
            return tables++;
        }

        int addRoutine(int module) {
            owners[routines] = module;
            return routines++;
        }

        int addLine(int routine, int op, int x, int y) {
            int number = lengths[routine];
            int at = routine * LINES + number;
            ops[at] = op;
            xs[at] = x;
            ys[at] = y;
            lengths[routine] = number + 1;
            addToTie(tieOfLine(routine, at), 1);
            return number;
        }

        int dropLines(int routine) {
            int had = lengths[routine];
            for (int number = 0; number < had; number++) {
                addToTie(tieOfLine(routine, routine * LINES + number), -1);
            }
            lengths[routine] = 0;
            return had;
        }

        int tieOfLine(int routine, int at) {
            int module = owners[routine];
            switch (ops[at]) {
                case CALL:
                    return tiePlace(CALLS, module, owners[xs[at]]);
                case READ:
                case MORE:
                case LESS:
                    return tiePlace(READS, module, xs[at]);
                case WRITE:
                    return tiePlace(WRITES, module, xs[at]);
                default:
                    return NO_TIE;
            }
        }

        private void addToTie(int tie, int more) {
            if (tie != NO_TIE) {
                ties[tie] += more;
            }
        }
    }

    /** One act, done on a copy of a house's cells, so that what fails leaves nothing behind. */
    private static final class Act {
        final int[] cells = new int[CELLS];
        final boolean[] isWritten = new boolean[CELLS];
        /** In the order of the first writes, which is the order of the letters. */
        final int[] written = new int[CELLS];
        final int[] ties = new int[MOST_DONE];
        final int[] openRoutines = new int[MOST_OPEN];
        final int[] nextLines = new int[MOST_OPEN];
        int writtenCount;
        int tieCount;
        int open;
        int value;

        boolean perform(Text text, int routine, int a, int[] house) {
            begin(house, a);
            enter(routine);
            for (int done = 0; done < MOST_DONE; done++) {
                leaveEnded(text);
                if (open == 0) {
                    return true;
                }
                if (!doNextLine(text)) {
                    return false;
                }
            }
            leaveEnded(text);
            return open == 0;
        }

        private void begin(int[] house, int a) {
            System.arraycopy(house, 0, cells, 0, CELLS);
            for (int i = 0; i < writtenCount; i++) {
                isWritten[written[i]] = false;
            }
            writtenCount = 0;
            tieCount = 0;
            open = 0;
            value = a;
        }

        private boolean enter(int routine) {
            if (open >= MOST_OPEN) {
                return false;
            }
            openRoutines[open] = routine;
            nextLines[open] = 0;
            open++;
            return true;
        }

        private void leaveEnded(Text text) {
            while (open > 0 && nextLines[open - 1] >= text.lengths[openRoutines[open - 1]]) {
                open--;
            }
        }

        private boolean doNextLine(Text text) {
            int top = open - 1;
            int routine = openRoutines[top];
            int at = routine * LINES + nextLines[top];
            nextLines[top]++;
            noteTie(text.tieOfLine(routine, at));
            int x = text.xs[at];
            int cell = x * TABLE_CELLS + text.ys[at];
            switch (text.ops[at]) {
                case SET:
                    value = x;
                    return true;
                case ADD:
                    value += x;
                    return true;
                case READ:
                    value = cells[cell];
                    return true;
                case WRITE:
                    write(cell);
                    return true;
                case CALL:
                    return enter(x);
                case SKIP:
                    if (value == 0) {
                        nextLines[top] += x;
                    }
                    return true;
                case FAIL:
                    return value >= 0;
                case MORE:
                    value += cells[cell];
                    return true;
                case LESS:
                    value -= cells[cell];
                    return true;
                default:
                    return true;
            }
        }

        private void noteTie(int tie) {
            if (tie != NO_TIE && tieCount < MOST_DONE) {
                ties[tieCount] = tie;
                tieCount++;
            }
        }

        private void write(int cell) {
            cells[cell] = value;
            if (!isWritten[cell]) {
                isWritten[cell] = true;
                written[writtenCount] = cell;
                writtenCount++;
            }
        }
    }

    /** Both houses with all that an image keeps of them. */
    private static final class Houses {
        final int[] oldCells = new int[CELLS];
        final int[] newCells = new int[CELLS];
        final int[] rooms = new int[MODULES];
        final int[] counts = new int[TIES];
        final HomeSets homeSets = new HomeSets();
        final Letters letters = new Letters();
        final int[] firstUnlike = new int[UNLIKE_FACTS];
        boolean hasUnlike;
        int oldActs;
        int newActs;
        int besides;

        int[] cellsOf(int house) {
            return house == OLD ? oldCells : newCells;
        }

        void keepOld(Act done, Text text) {
            int homes = 0;
            for (int i = 0; i < done.writtenCount; i++) {
                int cell = done.written[i];
                oldCells[cell] = done.cells[cell];
                homes |= 1 << text.homes[cell / TABLE_CELLS];
            }
            for (int i = 0; i < done.tieCount; i++) {
                counts[done.ties[i]]++;
            }
            homeSets.add(homes);
            oldActs++;
        }

        boolean keepNew(Act done, Text text, int module) {
            int here = rooms[module];
            int strange = 0;
            for (int i = 0; i < done.writtenCount; i++) {
                if (roomOf(done.written[i], text) != here) {
                    strange++;
                }
            }
            if (!letters.canTake(strange)) {
                return false;
            }
            for (int i = 0; i < done.writtenCount; i++) {
                int cell = done.written[i];
                int there = roomOf(cell, text);
                if (there == here) {
                    newCells[cell] = done.cells[cell];
                } else {
                    letters.send(cell, done.cells[cell], here, there);
                }
            }
            newActs++;
            return true;
        }

        private int roomOf(int cell, Text text) {
            return rooms[text.homes[cell / TABLE_CELLS]];
        }

        void noteUnlike(int routine, int a, int oldAnswer, int newAnswer) {
            if (hasUnlike) {
                return;
            }
            hasUnlike = true;
            firstUnlike[0] = besides;
            firstUnlike[1] = routine;
            firstUnlike[2] = a;
            firstUnlike[3] = oldAnswer;
            firstUnlike[4] = newAnswer;
        }

        int unlikeCells() {
            int unlike = 0;
            for (int cell = 0; cell < CELLS; cell++) {
                if (oldCells[cell] != newCells[cell]) {
                    unlike++;
                }
            }
            return unlike;
        }

        void renew() {
            System.arraycopy(oldCells, 0, newCells, 0, CELLS);
            letters.waits = 0;
            hasUnlike = false;
            besides = 0;
        }

        void become(Houses other) {
            System.arraycopy(other.oldCells, 0, oldCells, 0, CELLS);
            System.arraycopy(other.newCells, 0, newCells, 0, CELLS);
            System.arraycopy(other.rooms, 0, rooms, 0, MODULES);
            System.arraycopy(other.counts, 0, counts, 0, TIES);
            System.arraycopy(other.firstUnlike, 0, firstUnlike, 0, UNLIKE_FACTS);
            homeSets.become(other.homeSets);
            letters.become(other.letters);
            hasUnlike = other.hasUnlike;
            oldActs = other.oldActs;
            newActs = other.newActs;
            besides = other.besides;
        }
    }

    /** Which homes acts wrote together, and how many acts did; only sets that came are kept. */
    private static final class HomeSets {
        private static final int FIRST_LENGTH = 16;

        int[] masks = new int[FIRST_LENGTH];
        int[] acts = new int[FIRST_LENGTH];
        int size;

        void add(int mask) {
            for (int i = 0; i < size; i++) {
                if (masks[i] == mask) {
                    acts[i]++;
                    return;
                }
            }
            if (size >= masks.length) {
                masks = Arrays.copyOf(masks, size * 2);
                acts = Arrays.copyOf(acts, size * 2);
            }
            masks[size] = mask;
            acts[size] = 1;
            size++;
        }

        void become(HomeSets other) {
            if (masks.length < other.size) {
                masks = new int[other.masks.length];
                acts = new int[other.masks.length];
            }
            System.arraycopy(other.masks, 0, masks, 0, other.size);
            System.arraycopy(other.acts, 0, acts, 0, other.size);
            size = other.size;
        }
    }

    /** All letters by their numbers, and the numbers of those that wait, in their order. */
    private static final class Letters {
        private static final int FIRST_LENGTH = 32;

        /** Cell, room from and room to, in one number: a letter's address never changes. */
        int[] addresses = new int[FIRST_LENGTH];
        int[] says = new int[FIRST_LENGTH];
        final int[] waiting = new int[MOST_WAITING];
        int sent;
        int waits;

        boolean knows(int letter) {
            return letter >= 0 && letter < sent;
        }

        boolean canTake(int more) {
            return more == 0 || waits + more <= MOST_WAITING && sent + more <= MOST_SENT;
        }

        void send(int cell, int what, int from, int to) {
            if (sent >= addresses.length) {
                addresses = Arrays.copyOf(addresses, sent * 2);
                says = Arrays.copyOf(says, sent * 2);
            }
            addresses[sent] = (cell * ROOMS + from) * ROOMS + to;
            says[sent] = what;
            waiting[waits] = sent;
            waits++;
            sent++;
        }

        int cellOf(int letter) {
            return addresses[letter] / (ROOMS * ROOMS);
        }

        int fact(int letter, int what) {
            switch (what) {
                case 0:
                    return cellOf(letter) / TABLE_CELLS;
                case 1:
                    return cellOf(letter) % TABLE_CELLS;
                case 2:
                    return says[letter];
                case 3:
                    return addresses[letter] / ROOMS % ROOMS;
                case 4:
                    return addresses[letter] % ROOMS;
                case 5:
                    return placeInWaiting(letter) < waits ? 1 : 0;
                default:
                    return FAILED;
            }
        }

        private int placeInWaiting(int letter) {
            for (int i = 0; i < waits; i++) {
                if (waiting[i] == letter) {
                    return i;
                }
            }
            return waits;
        }

        boolean arrive(int letter, int[] cells) {
            int place = placeInWaiting(letter);
            if (place >= waits) {
                return false;
            }
            cells[cellOf(letter)] = says[letter];
            waits--;
            for (int i = place; i < waits; i++) {
                waiting[i] = waiting[i + 1];
            }
            return true;
        }

        int arriveAll(int[] cells) {
            int came = waits;
            for (int i = 0; i < came; i++) {
                cells[cellOf(waiting[i])] = says[waiting[i]];
            }
            waits = 0;
            return came;
        }

        void become(Letters other) {
            if (addresses.length < other.sent) {
                addresses = new int[other.addresses.length];
                says = new int[other.addresses.length];
            }
            System.arraycopy(other.addresses, 0, addresses, 0, other.sent);
            System.arraycopy(other.says, 0, says, 0, other.sent);
            System.arraycopy(other.waiting, 0, waiting, 0, other.waits);
            sent = other.sent;
            waits = other.waits;
        }
    }

    /** What it costs to have modules in unlike rooms, by the counts and weights at hand. */
    private static final class Prices {
        /** Of each two modules, told once for both directions. */
        private final long[] pairs = new long[MODULES * MODULES];
        private final Text text;
        private final int[] counts;
        private final HomeSets homeSets;
        private long wholeWeight;

        Prices(Text text, Houses houses) {
            this.text = text;
            counts = houses.counts;
            homeSets = houses.homeSets;
        }

        void prepare(int[] weights) {
            wholeWeight = weights[WHOLE];
            Arrays.fill(pairs, 0L);
            for (int m = 0; m < text.modules; m++) {
                for (int n = 0; n < text.modules; n++) {
                    addToPair(m, n, (long) counts[tiePlace(CALLS, m, n)] * weights[CALLS]);
                }
                for (int t = 0; t < text.tables; t++) {
                    long reads = (long) counts[tiePlace(READS, m, t)] * weights[READS];
                    long writes = (long) counts[tiePlace(WRITES, m, t)] * weights[WRITES];
                    addToPair(m, text.homes[t], reads + writes);
                }
            }
        }

        private void addToPair(int m, int n, long cost) {
            if (m != n) {
                pairs[m * MODULES + n] += cost;
                pairs[n * MODULES + m] += cost;
            }
        }

        long of(int[] rooms) {
            long sum = 0;
            for (int m = 1; m < text.modules; m++) {
                for (int n = 0; n < m; n++) {
                    if (rooms[m] != rooms[n]) {
                        sum += pairs[m * MODULES + n];
                    }
                }
            }
            for (int i = 0; i < homeSets.size; i++) {
                int above = Math.max(0, roomsOf(homeSets.masks[i], rooms) - 1);
                sum += homeSets.acts[i] * wholeWeight * above;
            }
            return sum;
        }

        private int roomsOf(int homes, int[] rooms) {
            int seen = 0;
            for (int m = 0; m < text.modules; m++) {
                if ((homes >> m & 1) != 0) {
                    seen |= 1 << rooms[m];
                }
            }
            return Integer.bitCount(seen);
        }

        /** What a module adds in a room where some of those ahead of it are. */
        long added(int module, int inRoom) {
            long sum = 0;
            for (int n = 0; n < module; n++) {
                if ((inRoom >> n & 1) == 0) {
                    sum += pairs[module * MODULES + n];
                }
            }
            int ahead = (1 << module) - 1;
            for (int i = 0; i < homeSets.size; i++) {
                int homes = homeSets.masks[i];
                boolean newRoom = (homes >> module & 1) != 0 && (homes & inRoom) == 0;
                if (newRoom && (homes & ahead) != 0) {
                    sum += homeSets.acts[i] * wholeWeight;
                }
            }
            return sum;
        }
    }

    /**
     * The cheapest rooms. Rooms have the same bounds, so the first of the ways that are alike but for
     * the rooms' numbers opens its rooms in their order: only such ways are tried, the first ones first.
     */
    private static final class Cutter {
        private final Text text;
        private final Prices prices;
        private final int[] members = new int[ROOMS];
        private final int[] loads = new int[ROOMS];
        private final int[] rooms = new int[CUT_MODULES];
        private final int[] foundRooms = new int[CUT_MODULES];
        private final int[] togetherAhead = new int[CUT_MODULES];
        private final int[] apartAhead = new int[CUT_MODULES];
        private int roomCount;
        private int most;
        private boolean found;
        /** Of the latest search that found rooms. */
        final int[] keptRooms = new int[CUT_MODULES];
        int keptModules;
        long leastPrice;

        Cutter(Text text, Prices prices) {
            this.text = text;
            this.prices = prices;
        }

        boolean search(int[] told, int r, int mostLoad) {
            roomCount = Math.min(r, ROOMS);
            most = mostLoad;
            found = false;
            Arrays.fill(members, 0);
            Arrays.fill(loads, 0);
            readTold(told);
            place(0, 0, 0L);
            if (found) {
                System.arraycopy(foundRooms, 0, keptRooms, 0, CUT_MODULES);
                keptModules = text.modules;
            }
            return found;
        }

        private void readTold(int[] told) {
            for (int m = 0; m < text.modules && m < CUT_MODULES; m++) {
                togetherAhead[m] = 0;
                apartAhead[m] = 0;
                for (int n = 0; n < m; n++) {
                    int how = told[m * MODULES + n];
                    togetherAhead[m] |= how == TOGETHER ? 1 << n : 0;
                    apartAhead[m] |= how == APART ? 1 << n : 0;
                }
            }
        }

        private void place(int module, int opened, long cost) {
            // What costs as much comes later in the order, so it can't be the one.
            if (found && cost >= leastPrice) {
                return;
            }
            if (module >= text.modules || module >= CUT_MODULES) {
                found = true;
                leastPrice = cost;
                System.arraycopy(rooms, 0, foundRooms, 0, CUT_MODULES);
                return;
            }
            int size = text.sizes[module];
            for (int r = 0; r <= opened && r < roomCount; r++) {
                if (loads[r] + size <= most && isAllowed(module, members[r])) {
                    long more = prices.added(module, members[r]);
                    rooms[module] = r;
                    members[r] |= 1 << module;
                    loads[r] += size;
                    place(module + 1, r == opened ? opened + 1 : opened, cost + more);
                    members[r] &= ~(1 << module);
                    loads[r] -= size;
                }
            }
        }

        private boolean isAllowed(int module, int inRoom) {
            return (apartAhead[module] & inRoom) == 0 && (togetherAhead[module] & ~inRoom) == 0;
        }
    }

    /** The shortest ring of calls between rooms, of several the first. */
    private static final class RingSearch {
        final int[] path = new int[ROOMS];
        private final int[] calls = new int[ROOMS];

        /** How many rooms the ring has; 0: there is none. */
        int shortest(Text text, int[] rooms) {
            readCalls(text, rooms);
            for (int length = 2; length <= ROOMS; length++) {
                for (int first = 0; first < ROOMS; first++) {
                    path[0] = first;
                    if (closes(1, length, 1 << first)) {
                        return length;
                    }
                }
            }
            return 0;
        }

        private void readCalls(Text text, int[] rooms) {
            Arrays.fill(calls, 0);
            for (int m = 0; m < text.modules; m++) {
                for (int n = 0; n < text.modules; n++) {
                    if (text.ties[tiePlace(CALLS, m, n)] > 0) {
                        calls[rooms[m]] |= 1 << rooms[n];
                    }
                }
            }
        }

        private boolean closes(int depth, int length, int used) {
            int from = calls[path[depth - 1]];
            if (depth >= length) {
                return (from >> path[0] & 1) != 0;
            }
            for (int next = 0; next < ROOMS; next++) {
                if (((from & ~used) >> next & 1) != 0) {
                    path[depth] = next;
                    if (closes(depth + 1, length, used | 1 << next)) {
                        return true;
                    }
                }
            }
            return false;
        }
    }

    /** Laws as sums of cells. */
    private static final class Laws {
        final int[] lengths = new int[LAWS];
        private final int[] leasts = new int[LAWS];
        private final int[] cells = new int[LAWS * TERMS];
        private final int[] factors = new int[LAWS * TERMS];
        int made;

        boolean has(int law) {
            return law >= 0 && law < made;
        }

        int addLaw(int least) {
            leasts[made] = least;
            return made++;
        }

        int addTerm(int law, int cell, int factor) {
            int at = law * TERMS + lengths[law];
            cells[at] = cell;
            factors[at] = factor;
            lengths[law]++;
            return lengths[law];
        }

        boolean standsAfter(int law, int[] house, Arrivals arrivals, int come) {
            long sum = 0;
            for (int i = 0; i < lengths[law]; i++) {
                int at = law * TERMS + i;
                sum += (long) factors[at] * arrivals.valueAfter(cells[at], house, come);
            }
            return sum >= leasts[law];
        }
    }

    /**
     * The orders in which the waiting letters can come. Letters to one cell keep their order, so which
     * of them have come says all of the cells: ways are counted from sets of letters, not order by order.
     */
    private static final class Arrivals {
        final int[] ways = new int[1 << MOST_ORDERED];
        final int[] soundWays = new int[1 << MOST_ORDERED];
        private final boolean[] stands = new boolean[1 << MOST_ORDERED];
        private final int[] numbers = new int[MOST_ORDERED];
        private final int[] cells = new int[MOST_ORDERED];
        private final int[] says = new int[MOST_ORDERED];
        private final int[] needs = new int[MOST_ORDERED];
        private int size;

        void gather(Letters letters) {
            size = Math.min(letters.waits, MOST_ORDERED);
            for (int i = 0; i < size; i++) {
                int letter = letters.waiting[i];
                numbers[i] = letter;
                cells[i] = letters.cellOf(letter);
                says[i] = letters.says[letter];
                needs[i] = 0;
                for (int j = 0; j < i; j++) {
                    needs[i] |= cells[j] == cells[i] ? 1 << j : 0;
                }
            }
            for (int come = 0; come < 1 << size; come++) {
                stands[come] = true;
            }
            countInto(ways);
        }

        void watch(Laws laws, int law, int[] house) {
            for (int come = 0; come < 1 << size; come++) {
                stands[come] = laws.standsAfter(law, house, this, come);
            }
            countInto(soundWays);
        }

        /** For each set of letters that have come: in how many ways the others can, through sets that stand. */
        private void countInto(int[] row) {
            int all = (1 << size) - 1;
            for (int come = all; come >= 0; come--) {
                int sum = come == all ? 1 : 0;
                for (int i = 0; i < size; i++) {
                    if (canCome(i, come)) {
                        sum += row[come | 1 << i];
                    }
                }
                row[come] = stands[come] ? sum : 0;
            }
        }

        private boolean canCome(int i, int come) {
            return (come >> i & 1) == 0 && (needs[i] & ~come) == 0;
        }

        int valueAfter(int cell, int[] house, int come) {
            for (int i = size - 1; i >= 0; i--) {
                if (cells[i] == cell && (come >> i & 1) != 0) {
                    return says[i];
                }
            }
            return house[cell];
        }

        int ofFirstBroken(int place) {
            if (place < 0 || place >= size || ways[NONE_CAME] == soundWays[NONE_CAME]) {
                return BAD;
            }
            int come = NONE_CAME;
            int latest = 0;
            boolean isBroken = false;
            for (int step = 0; step <= place; step++) {
                isBroken = isBroken || !stands[come];
                latest = firstToBreak(come, isBroken);
                come |= 1 << latest;
            }
            return numbers[latest];
        }

        private int firstToBreak(int come, boolean isBroken) {
            for (int i = 0; i < size; i++) {
                int then = come | 1 << i;
                if (canCome(i, come) && (isBroken || soundWays[then] < ways[then])) {
                    return i;
                }
            }
            return 0;
        }
    }
}
