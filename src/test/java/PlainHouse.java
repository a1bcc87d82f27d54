import java.util.ArrayList;
import java.util.Arrays;
import java.util.HashMap;
import java.util.HashSet;
import java.util.List;
import java.util.Map;
import java.util.Set;
import java.util.TreeSet;

/** A second writing of the document, slow and plain: every way to put modules and every order is gone through. */
final class PlainHouse {
    static final int BAD = -1, NOT = -2, FULL = -3, BIG = -4, FAILED = -2000000000;

    static final class Letter {
        int table, cell, says, from, to;
        boolean waits = true;

        Letter copy() {
            Letter l = new Letter();
            l.table = table;
            l.cell = cell;
            l.says = says;
            l.from = from;
            l.to = to;
            l.waits = waits;
            return l;
        }
    }

    static final class State {
        Map<List<Integer>, Integer> oldCells = new HashMap<>(), newCells = new HashMap<>();
        Map<List<Integer>, Integer> counts = new HashMap<>();
        List<Set<Integer>> writtenHomes = new ArrayList<>();
        List<Letter> letters = new ArrayList<>();
        List<Integer> rooms = new ArrayList<>();
        List<int[]> besides = new ArrayList<>();
        int oldActs, newActs, modules, tables;

        State copy() {
            State s = new State();
            s.oldCells.putAll(oldCells);
            s.newCells.putAll(newCells);
            s.counts.putAll(counts);
            s.writtenHomes.addAll(writtenHomes);
            for (Letter l : letters) {
                s.letters.add(l.copy());
            }
            s.rooms.addAll(rooms);
            s.besides.addAll(besides);
            s.oldActs = oldActs;
            s.newActs = newActs;
            return s;
        }
    }

    private static final class Failure extends RuntimeException {
        private static final long serialVersionUID = 1L;
    }

    private final List<Integer> sizes = new ArrayList<>(), homes = new ArrayList<>(), owners = new ArrayList<>();
    private final List<List<int[]>> lines = new ArrayList<>();
    private State now = new State();
    private final State[] images = new State[4];
    private final int[] weights = {1, 1, 1, 1};
    private final Map<Set<Integer>, Integer> told = new HashMap<>();
    private int[] latestCut = {};
    private final List<Integer> leasts = new ArrayList<>();
    private final List<List<int[]>> terms = new ArrayList<>();

    private static boolean in(int n, List<?> list) {
        return 0 <= n && n < list.size();
    }

    int module(int size) {
        if (size < 1 || size > 99) return BAD;
        if (sizes.size() == 10) return FULL;
        sizes.add(size);
        now.rooms.add(0);
        return sizes.size() - 1;
    }

    int table(int home) {
        if (!in(home, sizes)) return BAD;
        if (homes.size() == 16) return FULL;
        homes.add(home);
        return homes.size() - 1;
    }

    int routine(int module) {
        if (!in(module, sizes)) return BAD;
        if (owners.size() == 40) return FULL;
        owners.add(module);
        lines.add(new ArrayList<>());
        return owners.size() - 1;
    }

    int line(int routine, int op, int x, int y) {
        if (!in(routine, owners)) return BAD;
        boolean good;
        if (op == 0 || op == 1) good = Math.abs((long) x) < 1000 && y == 0;
        else if (op == 4) good = in(x, owners) && y == 0;
        else if (op == 5) good = 1 <= x && x <= 15 && y == 0;
        else if (op == 6) good = x == 0 && y == 0;
        else good = (op == 2 || op == 3 || op == 7 || op == 8) && in(x, homes) && 0 <= y && y <= 7;
        if (!good) return BAD;
        if (lines.get(routine).size() == 16) return FULL;
        lines.get(routine).add(new int[] {op, x, y});
        return lines.get(routine).size() - 1;
    }

    int clear(int routine) {
        if (!in(routine, owners)) return BAD;
        int had = lines.get(routine).size();
        lines.get(routine).clear();
        return had;
    }

    /** One act under way: its cells are the house's with its own writes over them. */
    private final class Doing {
        final Map<List<Integer>, Integer> house;
        final Map<List<Integer>, Integer> own = new HashMap<>();
        final List<List<Integer>> order = new ArrayList<>();
        final List<List<Integer>> ties = new ArrayList<>();
        int a, done;

        Doing(Map<List<Integer>, Integer> house, int a) {
            this.house = house;
            this.a = a;
        }

        int read(int module, int table, int cell) {
            ties.add(List.of(1, module, table));
            List<Integer> key = List.of(table, cell);
            return own.containsKey(key) ? own.get(key) : house.getOrDefault(key, 0);
        }

        void write(int module, int table, int cell) {
            ties.add(List.of(2, module, table));
            List<Integer> key = List.of(table, cell);
            if (!own.containsKey(key)) order.add(key);
            own.put(key, a);
        }

        void go(int routine, int open) {
            if (open >= 9) throw new Failure();
            int m = owners.get(routine);
            int skip = 0;
            for (int[] l : lines.get(routine)) {
                if (skip > 0) {
                    skip--;
                    continue;
                }
                if (++done >= 301) throw new Failure();
                if (l[0] == 0) a = l[1];
                if (l[0] == 1) a = a + l[1];
                if (l[0] == 2) a = read(m, l[1], l[2]);
                if (l[0] == 3) write(m, l[1], l[2]);
                if (l[0] == 4) {
                    ties.add(List.of(0, m, owners.get(l[1])));
                    go(l[1], open + 1);
                }
                if (l[0] == 5 && a == 0) skip = l[1];
                if (l[0] == 6 && a < 0) throw new Failure();
                if (l[0] == 7) a = a + read(m, l[1], l[2]);
                if (l[0] == 8) a = a - read(m, l[1], l[2]);
            }
        }
    }

    /** null: it failed. */
    private Integer doOld(int routine, int a) {
        Doing d = new Doing(now.oldCells, a);
        try {
            d.go(routine, 1);
        } catch (Failure f) {
            return null;
        }
        now.oldCells.putAll(d.own);
        Set<Integer> set = new TreeSet<>();
        for (List<Integer> key : d.order) set.add(homes.get(key.get(0)));
        now.writtenHomes.add(set);
        for (List<Integer> tie : d.ties) now.counts.merge(tie, 1, Integer::sum);
        now.oldActs++;
        return d.a;
    }

    private Integer doNew(int routine, int a) {
        Doing d = new Doing(now.newCells, a);
        try {
            d.go(routine, 1);
        } catch (Failure f) {
            return null;
        }
        int here = now.rooms.get(owners.get(routine));
        List<Letter> sent = new ArrayList<>();
        Map<List<Integer>, Integer> writes = new HashMap<>();
        for (List<Integer> key : d.order) {
            int there = now.rooms.get(homes.get(key.get(0)));
            if (there == here) {
                writes.put(key, d.own.get(key));
                continue;
            }
            Letter l = new Letter();
            l.table = key.get(0);
            l.cell = key.get(1);
            l.says = d.own.get(key);
            l.from = here;
            l.to = there;
            sent.add(l);
        }
        if (waiting().size() + sent.size() > 40 || now.letters.size() + sent.size() > 2000) return null;
        now.newCells.putAll(writes);
        now.letters.addAll(sent);
        now.newActs++;
        return d.a;
    }

    private static int answer(Integer a) {
        return a == null ? FAILED : a;
    }

    int run(int routine, int a) {
        return in(routine, owners) ? answer(doOld(routine, a)) : BAD;
    }

    int cell(int house, int table, int cell) {
        if (house < 0 || house > 1 || !in(table, homes) || cell < 0 || cell > 7) return FAILED;
        return (house == 0 ? now.oldCells : now.newCells).getOrDefault(List.of(table, cell), 0);
    }

    private boolean badTie(int what, int a, int b) {
        return what < 0 || what > 2 || !in(a, sizes) || !in(b, what == 0 ? sizes : homes);
    }

    int counted(int what, int a, int b) {
        return badTie(what, a, b) ? BAD : now.counts.getOrDefault(List.of(what, a, b), 0);
    }

    int tied(int what, int a, int b) {
        if (badTie(what, a, b)) return BAD;
        for (int r = 0; r < owners.size(); r++) {
            if (owners.get(r) != a) continue;
            for (int[] l : lines.get(r)) {
                if (what == 0 && l[0] == 4 && owners.get(l[1]) == b) return 1;
                if (what == 1 && (l[0] == 2 || l[0] == 7 || l[0] == 8) && l[1] == b) return 1;
                if (what == 2 && l[0] == 3 && l[1] == b) return 1;
            }
        }
        return 0;
    }

    int room(int module, int room) {
        if (!in(module, sizes) || room < 0 || room > 5) return BAD;
        if (!waiting().isEmpty()) return NOT;
        return now.rooms.set(module, room);
    }

    int weight(int what, int w) {
        if (what < 0 || what > 3 || w < 0 || w > 99) return BAD;
        int was = weights[what];
        weights[what] = w;
        return was;
    }

    int tell(int a, int b, int how) {
        if (!in(a, sizes) || !in(b, sizes) || a == b || how < 0 || how > 2) return BAD;
        Integer was = told.put(Set.of(a, b), how);
        return was == null ? 0 : was;
    }

    private long priceOf(int[] rooms) {
        long sum = 0;
        for (Map.Entry<List<Integer>, Integer> e : now.counts.entrySet()) {
            int what = e.getKey().get(0), a = e.getKey().get(1), b = e.getKey().get(2);
            int other = what == 0 ? b : homes.get(b);
            if (rooms[a] != rooms[other]) sum += (long) weights[what] * e.getValue();
        }
        for (Set<Integer> set : now.writtenHomes) {
            Set<Integer> in = new HashSet<>();
            for (int home : set) in.add(rooms[home]);
            if (in.size() > 1) sum += (long) weights[3] * (in.size() - 1);
        }
        return sum;
    }

    long price() {
        return priceOf(now.rooms.stream().mapToInt(r -> r).toArray());
    }

    private boolean allowed(int[] rooms, int r, int most) {
        int[] loads = new int[r];
        for (int m = 0; m < rooms.length; m++) {
            loads[rooms[m]] += sizes.get(m);
            if (loads[rooms[m]] > most) return false;
        }
        for (int m = 0; m < rooms.length; m++) {
            for (int n = 0; n < m; n++) {
                int how = told.getOrDefault(Set.of(m, n), 0);
                if (how == 1 && rooms[m] != rooms[n] || how == 2 && rooms[m] == rooms[n]) return false;
            }
        }
        return true;
    }

    long cut(int r, int most) {
        if (r < 1 || r > 6 || most < 1 || most > 9999) return BAD;
        int n = sizes.size();
        if (n > 9) return BIG;
        long least = -1;
        int[] best = null;
        long ways = 1;
        for (int m = 0; m < n; m++) ways *= r;
        for (long way = 0; way < ways; way++) {
            int[] rooms = new int[n];
            long rest = way;
            for (int m = n - 1; m >= 0; m--) {
                rooms[m] = (int) (rest % r);
                rest /= r;
            }
            if (!allowed(rooms, r, most)) continue;
            long price = priceOf(rooms);
            if (best == null || price < least) {
                best = rooms;
                least = price;
            }
        }
        if (best == null) return NOT;
        latestCut = best;
        return least;
    }

    int put(int module) {
        return module < 0 || module >= latestCut.length ? BAD : latestCut[module];
    }

    private boolean calls(int from, int to) {
        for (int m = 0; m < sizes.size(); m++) {
            for (int n = 0; n < sizes.size(); n++) {
                if (now.rooms.get(m) == from && now.rooms.get(n) == to && tied(0, m, n) == 1) return true;
            }
        }
        return false;
    }

    private void rings(List<Integer> path, boolean[][] calls, List<List<Integer>> found) {
        int last = path.get(path.size() - 1);
        if (path.size() >= 2 && calls[last][path.get(0)]) found.add(new ArrayList<>(path));
        for (int next = 0; next < 6; next++) {
            if (calls[last][next] && !path.contains(next)) {
                path.add(next);
                rings(path, calls, found);
                path.remove(path.size() - 1);
            }
        }
    }

    int ring(int i) {
        boolean[][] calls = new boolean[6][6];
        for (int f = 0; f < 6; f++) {
            for (int t = 0; t < 6; t++) calls[f][t] = calls(f, t);
        }
        List<List<Integer>> found = new ArrayList<>();
        for (int first = 0; first < 6; first++) rings(new ArrayList<>(List.of(first)), calls, found);
        List<Integer> best = null;
        for (List<Integer> one : found) {
            boolean less = best == null || one.size() < best.size()
                || one.size() == best.size() && one.toString().compareTo(best.toString()) < 0;
            if (less) best = one;
        }
        return best == null || i < 0 || i >= best.size() ? BAD : best.get(i);
    }

    int act(int routine, int a) {
        return in(routine, owners) ? answer(doNew(routine, a)) : BAD;
    }

    private List<Integer> waiting() {
        List<Integer> list = new ArrayList<>();
        for (int l = 0; l < now.letters.size(); l++) {
            if (now.letters.get(l).waits) list.add(l);
        }
        return list;
    }

    int deliver(int letter) {
        if (!in(letter, now.letters)) return BAD;
        Letter l = now.letters.get(letter);
        if (!l.waits) return 0;
        now.newCells.put(List.of(l.table, l.cell), l.says);
        l.waits = false;
        return 1;
    }

    int settle() {
        List<Integer> list = waiting();
        for (int l : list) deliver(l);
        return list.size();
    }

    int letter(int letter, int what) {
        if (!in(letter, now.letters) || what < 0 || what > 5) return FAILED;
        Letter l = now.letters.get(letter);
        return new int[] {l.table, l.cell, l.says, l.from, l.to, l.waits ? 1 : 0}[what];
    }

    int law(int least) {
        if (leasts.size() == 10) return FULL;
        leasts.add(least);
        terms.add(new ArrayList<>());
        return leasts.size() - 1;
    }

    int term(int law, int table, int cell, int factor) {
        if (!in(law, leasts) || !in(table, homes) || cell < 0 || cell > 7 || factor < -9 || factor > 9) return BAD;
        if (terms.get(law).size() == 6) return FULL;
        terms.get(law).add(new int[] {table, cell, factor});
        return terms.get(law).size();
    }

    private boolean stands(int law, Map<List<Integer>, Integer> cells) {
        long sum = 0;
        for (int[] t : terms.get(law)) sum += (long) t[2] * cells.getOrDefault(List.of(t[0], t[1]), 0);
        return sum >= leasts.get(law);
    }

    int holds(int law, int house) {
        if (!in(law, leasts) || house < 0 || house > 1) return BAD;
        return stands(law, house == 0 ? now.oldCells : now.newCells) ? 1 : 0;
    }

    private void permute(List<Integer> path, List<Integer> rest, List<List<Integer>> found) {
        if (rest.isEmpty()) {
            found.add(new ArrayList<>(path));
            return;
        }
        for (int letter : rest) {
            boolean mayCome = true;
            Letter l = now.letters.get(letter);
            for (int other : rest) {
                Letter o = now.letters.get(other);
                if (other < letter && o.table == l.table && o.cell == l.cell) mayCome = false;
            }
            if (!mayCome) continue;
            List<Integer> less = new ArrayList<>(rest);
            less.remove(Integer.valueOf(letter));
            path.add(letter);
            permute(path, less, found);
            path.remove(path.size() - 1);
        }
    }

    private List<List<Integer>> allOrders() {
        List<List<Integer>> found = new ArrayList<>();
        permute(new ArrayList<>(), waiting(), found);
        return found;
    }

    private List<List<Integer>> brokenOrders(int law) {
        List<List<Integer>> found = new ArrayList<>();
        for (List<Integer> order : allOrders()) {
            Map<List<Integer>, Integer> cells = new HashMap<>(now.newCells);
            boolean ok = stands(law, cells);
            for (int letter : order) {
                Letter l = now.letters.get(letter);
                cells.put(List.of(l.table, l.cell), l.says);
                ok &= stands(law, cells);
            }
            if (!ok) found.add(order);
        }
        return found;
    }

    int broken(int law) {
        if (!in(law, leasts)) return BAD;
        return waiting().size() > 6 ? BIG : brokenOrders(law).size();
    }

    int worst(int law, int i) {
        if (!in(law, leasts)) return BAD;
        if (waiting().size() > 6) return BIG;
        List<List<Integer>> found = brokenOrders(law);
        return found.isEmpty() || !in(i, found.get(0)) ? BAD : found.get(0).get(i);
    }

    int orders() {
        return waiting().size() > 6 ? BIG : allOrders().size();
    }

    int beside(int routine, int a) {
        if (!in(routine, owners)) return BAD;
        Integer o = doOld(routine, a), n = doNew(routine, a);
        int alike = o == null && n == null || o != null && o.equals(n) ? 1 : 0;
        now.besides.add(new int[] {alike, routine, a, answer(o), answer(n)});
        return alike;
    }

    int unlike(int what) {
        if (what < 0 || what > 4) return BAD;
        for (int i = 0; i < now.besides.size(); i++) {
            if (now.besides.get(i)[0] == 0) return what == 0 ? i : now.besides.get(i)[what];
        }
        return NOT;
    }

    int differ() {
        int sum = 0;
        for (int t = 0; t < homes.size(); t++) {
            for (int c = 0; c < 8; c++) sum += cell(0, t, c) != cell(1, t, c) ? 1 : 0;
        }
        return sum;
    }

    int sync() {
        int became = differ();
        now.newCells = new HashMap<>(now.oldCells);
        for (Letter l : now.letters) l.waits = false;
        now.besides.clear();
        return became;
    }

    int image(int i) {
        if (i < 0 || i > 3) return BAD;
        images[i] = now.copy();
        images[i].modules = sizes.size();
        images[i].tables = homes.size();
        return 1;
    }

    int restore(int i) {
        if (i < 0 || i > 3) return BAD;
        State s = images[i];
        if (s == null || s.modules != sizes.size() || s.tables != homes.size()) return NOT;
        now = s.copy();
        return 1;
    }

    int count(int what) {
        if (what < 0 || what > 8) return BAD;
        int[] all = {sizes.size(), homes.size(), owners.size(), leasts.size(), now.oldActs, now.newActs,
            now.letters.size(), waiting().size(), now.besides.size()};
        return Arrays.stream(all).skip(what).findFirst().getAsInt();
    }
}
