import java.util.ArrayList;
import java.util.Collections;
import java.util.HashMap;
import java.util.LinkedHashMap;
import java.util.List;
import java.util.Map;
import java.util.NoSuchElementException;
import java.util.Random;
import java.util.TreeMap;
import java.util.TreeSet;
import java.util.regex.Matcher;
import java.util.regex.Pattern;

/**
 * Long runs of calls by chance (always the same ones), each answer held against a slow model that is written
 * in another way, close to the document's words.
 */
public final class ModelRuns {
    private static final int THROWS = Integer.MIN_VALUE;
    private static int wrong = 0;
    private static final Map<String, Integer> answers = new TreeMap<>();

    record Cell(int ring, int turn) implements Comparable<Cell> {
        @Override
        public int compareTo(Cell o) {
            return ring != o.ring ? Integer.compare(ring, o.ring) : Integer.compare(turn, o.turn);
        }
    }

    record Place(Cell cell, int amount) {
    }

    /** BEST: its ink, and the steps (cell, side) by which it is made. */
    record Made(int ink, Map<Cell, Integer> steps) {
    }

    static final class Model {
        int rings = 5;
        int turns = 12;
        int base = 10;
        int bend = 4;
        int reach = 3;
        TreeMap<Cell, Integer> amounts = new TreeMap<>();
        TreeSet<Cell> rocks = new TreeSet<>();
        List<Integer> tape = new ArrayList<>();
        Map<Integer, Map<Cell, Integer>> drawnTrees = new HashMap<>();
        Map<Cell, Map<Integer, Made>> made = new HashMap<>();

        void changed() {
            drawnTrees.clear();
            made.clear();
        }

        static final Cell SOURCE = new Cell(0, 0);

        List<Place> places() {
            List<Place> all = new ArrayList<>();
            for (Map.Entry<Cell, Integer> e : amounts.entrySet()) {
                all.add(new Place(e.getKey(), e.getValue()));
            }
            all.sort((a, b) -> a.cell.turn != b.cell.turn ? a.cell.turn - b.cell.turn : a.cell.ring - b.cell.ring);
            return all;
        }

        boolean isCell(int ring, int turn) {
            return ring >= 1 && ring <= rings && turn >= 0 && turn < turns;
        }

        boolean isCellOrSource(int ring, int turn) {
            return isCell(ring, turn) || ring == 0 && turn == 0;
        }

        Cell inwards(Cell c, int side) {
            if (c.ring == 1) {
                return SOURCE;
            }
            int by = side == 0 ? 0 : side == 1 ? -1 : 1;
            return new Cell(c.ring - 1, Math.floorMod(c.turn + by, turns));
        }

        int length(Cell c, int side) {
            return side == 0 ? 10 : 10 + bend;
        }

        /** The cells of a place's way, its own first and the source last. */
        List<Cell> wayOf(Map<Cell, Integer> steps, Cell from) {
            List<Cell> way = new ArrayList<>();
            Cell c = from;
            while (!c.equals(SOURCE)) {
                way.add(c);
                c = inwards(c, steps.get(c));
            }
            way.add(c);
            return way;
        }

        int amountAt(Map<Cell, Integer> steps, Cell at) {
            int sum = 0;
            for (Place p : places()) {
                sum += wayOf(steps, p.cell).contains(at) ? p.amount : 0;
            }
            return sum;
        }

        int bitsAt(Map<Cell, Integer> steps, Cell at) {
            int bits = 0;
            int n = 0;
            for (Place p : places()) {
                bits |= wayOf(steps, p.cell).contains(at) ? 1 << n : 0;
                n++;
            }
            return bits;
        }

        int inkOf(Map<Cell, Integer> steps) {
            int sum = 0;
            for (Map.Entry<Cell, Integer> e : steps.entrySet()) {
                sum += length(e.getKey(), e.getValue()) * (base + amountAt(steps, e.getKey()));
            }
            return sum;
        }

        /** The steps of a manner's tree; null where there is none. */
        Map<Cell, Integer> tree(int manner) {
            if (!drawnTrees.containsKey(manner)) {
                drawnTrees.put(manner, manner == 1 ? straight() : manner == 2 ? lean()
                    : manner == 3 ? straightened() : least());
            }
            return drawnTrees.get(manner);
        }

        Map<Cell, Integer> straight() {
            Map<Cell, Integer> steps = new TreeMap<>();
            for (Place p : places()) {
                for (int r = p.cell.ring; r >= 1; r--) {
                    Cell c = new Cell(r, p.cell.turn);
                    if (rocks.contains(c)) {
                        return null;
                    }
                    steps.put(c, 0);
                }
            }
            return steps;
        }

        Map<Cell, Integer> lean() {
            Map<Cell, Integer> steps = new TreeMap<>();
            TreeMap<Integer, Integer> comes = new TreeMap<>();
            for (int r = rings; r >= 1; r--) {
                for (Place p : places()) {
                    if (p.cell.ring == r) {
                        comes.merge(p.cell.turn, p.amount, Integer::sum);
                    }
                }
                TreeMap<Integer, Integer> next = new TreeMap<>();
                for (int t : comes.keySet()) {
                    Cell c = new Cell(r, t);
                    int side = r == 1 ? 0 : wants(comes, t);
                    List<Integer> tries = new ArrayList<>(List.of(side, 0, 1, 2));
                    tries.removeIf(s -> rocks.contains(inwards(c, s)));
                    if (tries.isEmpty()) {
                        return null;
                    }
                    steps.put(c, tries.get(0));
                    next.merge(inwards(c, tries.get(0)).turn, comes.get(t), Integer::sum);
                }
                comes = next;
            }
            return steps;
        }

        int wants(TreeMap<Integer, Integer> comes, int t) {
            int nearest = Integer.MAX_VALUE;
            int other = -1;
            int side = 0;
            for (int o : comes.keySet()) {
                if (o == t) {
                    continue;
                }
                int right = Math.floorMod(o - t, turns);
                int left = Math.floorMod(t - o, turns);
                int far = Math.min(left, right);
                int to = right <= left ? 2 : 1;
                if (far < nearest || far == nearest && to == 2) {
                    nearest = far;
                    other = o;
                    side = to;
                }
            }
            if (other < 0 || nearest > reach) {
                return 0;
            }
            if (nearest > 1) {
                return side;
            }
            int mine = comes.get(t);
            int its = comes.get(other);
            if (mine == its) {
                return side == 2 ? 2 : 0;
            }
            return mine < its ? side : 0;
        }

        Map<Cell, Integer> straightened() {
            Map<Cell, Integer> leaning = tree(2);
            if (leaning == null) {
                return null;
            }
            Map<Cell, Integer> steps = new TreeMap<>(leaning);
            boolean again = true;
            while (again) {
                again = false;
                for (int r = rings; r >= 3; r--) {
                    for (int t = 0; t < turns; t++) {
                        again |= straightenAt(steps, new Cell(r, t));
                    }
                }
            }
            return steps;
        }

        boolean straightenAt(Map<Cell, Integer> steps, Cell c) {
            Integer side = steps.get(c);
            if (side == null || side == 0) {
                return false;
            }
            Cell d = inwards(c, side);
            Cell m = new Cell(c.ring - 1, c.turn);
            if (amounts.containsKey(d) || comers(steps, d) != 1 || steps.get(d) != 3 - side
                    || rocks.contains(m) || steps.containsKey(m)) {
                return false;
            }
            steps.put(c, 0);
            steps.remove(d);
            steps.put(m, 0);
            return true;
        }

        int comers(Map<Cell, Integer> steps, Cell to) {
            int many = amounts.containsKey(to) ? 1 : 0;
            for (Map.Entry<Cell, Integer> e : steps.entrySet()) {
                many += inwards(e.getKey(), e.getValue()).equals(to) ? 1 : 0;
            }
            return many;
        }

        Map<Cell, Integer> least() {
            int all = (1 << amounts.size()) - 1;
            if (all == 0) {
                return new TreeMap<>();
            }
            Made m = best(SOURCE, all);
            return m == null ? null : m.steps;
        }

        int amountOf(int set) {
            int sum = 0;
            List<Place> ps = places();
            for (int p = 0; p < ps.size(); p++) {
                sum += (set >> p & 1) * ps.get(p).amount;
            }
            return sum;
        }

        Made best(Cell c, int set) {
            Map<Integer, Made> of = made.computeIfAbsent(c, k -> new HashMap<>());
            if (!of.containsKey(set)) {
                of.put(set, bestAnew(c, set));
            }
            return of.get(set);
        }

        Made bestAnew(Cell c, int set) {
            if (rocks.contains(c)) {
                return null;
            }
            List<Place> ps = places();
            for (int p = 0; p < ps.size(); p++) {
                if (set == 1 << p && ps.get(p).cell.equals(c)) {
                    return new Made(0, Map.of());
                }
            }
            Made found = null;
            for (int part = 1; part < set; part++) {
                if ((part & ~set) != 0 || (part & Integer.lowestOneBit(set)) == 0) {
                    continue;
                }
                Made a = best(c, part);
                Made b = best(c, set - part);
                if (a != null && b != null && (found == null || a.ink + b.ink < found.ink)) {
                    Map<Cell, Integer> steps = new LinkedHashMap<>(a.steps);
                    for (Map.Entry<Cell, Integer> e : b.steps.entrySet()) {
                        steps.merge(e.getKey(), e.getValue(), (x, y) -> x);
                    }
                    found = new Made(a.ink + b.ink, steps);
                }
            }
            List<Cell> from = new ArrayList<>();
            List<Integer> sides = new ArrayList<>();
            if (c.ring == 0) {
                for (int t = 0; t < turns; t++) {
                    from.add(new Cell(1, t));
                    sides.add(0);
                }
            } else if (c.ring < rings) {
                for (int by : new int[] {0, -1, 1}) {
                    from.add(new Cell(c.ring + 1, Math.floorMod(c.turn + by, turns)));
                    sides.add(by == 0 ? 0 : by == -1 ? 2 : 1);
                }
            }
            for (int k = 0; k < from.size(); k++) {
                Made m = best(from.get(k), set);
                if (m == null) {
                    continue;
                }
                int ink = m.ink + length(from.get(k), sides.get(k)) * (base + amountOf(set));
                if (found == null || ink < found.ink) {
                    Map<Cell, Integer> steps = new LinkedHashMap<>(m.steps);
                    steps.put(from.get(k), sides.get(k));
                    found = new Made(ink, steps);
                }
            }
            return found;
        }

        /** The least length from a cell to the source, whatever else is there; -1 if there is no way. */
        int leastLength(Cell from) {
            if (from.equals(SOURCE)) {
                return 0;
            }
            int least = -1;
            for (int side = 0; side <= (from.ring == 1 ? 0 : 2); side++) {
                Cell to = inwards(from, side);
                int rest = rocks.contains(to) ? -1 : leastLength(to);
                if (rest >= 0 && (least < 0 || rest + length(from, side) < least)) {
                    least = rest + length(from, side);
                }
            }
            return least;
        }

        int inkAlone() {
            int sum = 0;
            for (int p = 0; p < amounts.size(); p++) {
                if (alone(p) == -2) {
                    return -2;
                }
                sum += alone(p);
            }
            return sum;
        }

        // ---- the face ----

        int feed(int[] v) {
            if (tape.size() + 20 > 500) {
                return -1;
            }
            for (int x : v) {
                tape.add(x >> 24 & 255);
                tape.add(x >> 16 & 255);
                tape.add(x >> 8 & 255);
                tape.add(x & 255);
            }
            return tape.size();
        }

        int text(int n) {
            if (n < 0 || n > tape.size()) {
                return -1;
            }
            StringBuilder sb = new StringBuilder();
            for (int i = 0; i < n; i++) {
                sb.append((char) (int) tape.get(i));
            }
            tape.clear();
            Model told = new Model();
            int fault = new TextModel(sb.toString()).fault(told);
            if (fault != 0) {
                return -2 - fault;
            }
            rings = told.rings;
            turns = told.turns;
            base = told.base;
            bend = told.bend;
            reach = told.reach;
            amounts = told.amounts;
            rocks = told.rocks;
            changed();
            return amounts.size();
        }

        boolean chart(int r, int n) {
            if (r < 2 || r > 9 || n < 6 || n > 24) {
                return false;
            }
            rings = r;
            turns = n;
            amounts.clear();
            rocks.clear();
            changed();
            return true;
        }

        int place(int ring, int turn, int amount) {
            Cell c = new Cell(ring, turn);
            if (!isCell(ring, turn) || amount < 0 || amount > 99 || rocks.contains(c)) {
                return -1;
            }
            if (amount == 0) {
                if (amounts.remove(c) == null) {
                    return -1;
                }
            } else {
                if (!amounts.containsKey(c) && amounts.size() == 7) {
                    return -1;
                }
                amounts.put(c, amount);
            }
            changed();
            return amounts.size();
        }

        boolean rock(int ring, int turn, boolean is) {
            Cell c = new Cell(ring, turn);
            if (!isCell(ring, turn) || amounts.containsKey(c)) {
                return false;
            }
            changed();
            return is ? rocks.add(c) : rocks.remove(c);
        }

        int set(int what, int v) {
            int[] low = {1, 0, 0};
            int[] high = {99, 40, 6};
            if (what < 0 || what > 2 || v < low[what] || v > high[what]) {
                return -1;
            }
            int was = what == 0 ? base : what == 1 ? bend : reach;
            base = what == 0 ? v : base;
            bend = what == 1 ? v : bend;
            reach = what == 2 ? v : reach;
            changed();
            return was;
        }

        int at(int place, int what) {
            if (place < 0 || place >= amounts.size() || what < 0 || what > 2) {
                return THROWS;
            }
            Place p = places().get(place);
            return what == 0 ? p.cell.ring : what == 1 ? p.cell.turn : p.amount;
        }

        int ink(int manner) {
            if (manner < 0 || manner > 4) {
                return -1;
            }
            if (manner == 0) {
                return inkAlone();
            }
            return tree(manner) == null ? -2 : inkOf(tree(manner));
        }

        int width(int manner, int ring, int turn) {
            if (manner < 1 || manner > 4 || !isCellOrSource(ring, turn)) {
                return -1;
            }
            return tree(manner) == null ? -2 : amountAt(tree(manner), new Cell(ring, turn));
        }

        int step(int manner, int ring, int turn) {
            if (manner < 1 || manner > 4 || !isCellOrSource(ring, turn)) {
                return -1;
            }
            return tree(manner) == null ? -2 : tree(manner).getOrDefault(new Cell(ring, turn), -1);
        }

        int join(int manner, int i, int what) {
            if (manner < 1 || manner > 4 || i < -1 || what < 0 || what > 2) {
                return -1;
            }
            Map<Cell, Integer> steps = tree(manner);
            if (steps == null) {
                return -2;
            }
            TreeSet<Cell> to = new TreeSet<>();
            for (Map.Entry<Cell, Integer> e : steps.entrySet()) {
                to.add(inwards(e.getKey(), e.getValue()));
            }
            List<int[]> joins = new ArrayList<>();
            for (Cell c : to) {
                int many = comers(steps, c);
                if (many >= 2) {
                    joins.add(new int[] {c.ring, c.turn, many});
                }
            }
            joins.sort((a, b) -> a[0] != b[0] ? b[0] - a[0] : a[1] - b[1]);
            if (i == -1) {
                return joins.size();
            }
            return i < joins.size() ? joins.get(i)[what] : -1;
        }

        int drawn(int manner, int what) {
            if (manner < 1 || manner > 4 || what < 0 || what > 4) {
                return -1;
            }
            Map<Cell, Integer> steps = tree(manner);
            if (steps == null) {
                return -2;
            }
            int bends = 0;
            int across = 0;
            int widest = 0;
            Map<Integer, Integer> ofRing = new HashMap<>();
            for (Map.Entry<Cell, Integer> e : steps.entrySet()) {
                Cell c = e.getKey();
                bends += e.getValue() != 0 ? 1 : 0;
                Cell right = new Cell(c.ring, (c.turn + 1) % turns);
                across += e.getValue() == 2 && steps.getOrDefault(right, 0) == 1 ? 1 : 0;
                widest = Math.max(widest, amountAt(steps, c));
                ofRing.merge(c.ring, 1, Integer::sum);
            }
            int most = ofRing.isEmpty() ? 0 : Collections.max(ofRing.values());
            return new int[] {bends, across, steps.size(), most, widest}[what];
        }

        int way(int manner, int place, int ring) {
            if (manner < 1 || manner > 4 || place < 0 || place >= amounts.size() || ring < 0 || ring > rings) {
                return -1;
            }
            if (tree(manner) == null) {
                return -2;
            }
            for (Cell c : wayOf(tree(manner), places().get(place).cell)) {
                if (c.ring == ring) {
                    return c.turn;
                }
            }
            return -1;
        }

        int borne(int manner, int ring, int turn) {
            if (manner < 1 || manner > 4 || !isCell(ring, turn)) {
                return -1;
            }
            return tree(manner) == null ? -2 : bitsAt(tree(manner), new Cell(ring, turn));
        }

        int alone(int place) {
            if (place < 0 || place >= amounts.size()) {
                return -1;
            }
            Place p = places().get(place);
            int length = leastLength(p.cell);
            return length < 0 ? -2 : length * (base + p.amount);
        }

        int costs(int place) {
            if (place < 0 || place >= amounts.size()) {
                return -1;
            }
            int with = ink(4);
            Model less = copy();
            less.amounts.remove(places().get(place).cell);
            int without = less.ink(4);
            return with == -2 || without == -2 ? -2 : with - without;
        }

        int bars(int ring, int turn) {
            Cell c = new Cell(ring, turn);
            if (!rocks.contains(c)) {
                return -1;
            }
            if (ink(4) == -2) {
                return -2;
            }
            Model less = copy();
            less.rocks.remove(c);
            return ink(4) - less.ink(4);
        }

        Model copy() {
            Model m = new Model();
            m.rings = rings;
            m.turns = turns;
            m.base = base;
            m.bend = bend;
            m.reach = reach;
            m.amounts.putAll(amounts);
            m.rocks.addAll(rocks);
            return m;
        }

        int more(int ring, int turn, int amount, int what) {
            Cell c = new Cell(ring, turn);
            if (!isCell(ring, turn) || rocks.contains(c) || amount < 1 || amount > 99 || what < 0 || what > 2) {
                return -1;
            }
            if (tree(4) == null) {
                return -2;
            }
            List<int[]> ways = new ArrayList<>();
            allWays(c, 0, amount, ways);
            if (ways.isEmpty()) {
                return -2;
            }
            ways.sort((a, b) -> a[0] != b[0] ? a[0] - b[0] : a[1] != b[1] ? a[1] - b[1] : a[2] - b[2]);
            return ways.get(0)[what];
        }

        void allWays(Cell c, int ink, int amount, List<int[]> ways) {
            Map<Cell, Integer> steps = tree(4);
            if (c.equals(SOURCE) || steps.containsKey(c)) {
                int on = 0;
                for (Cell w : wayOf(steps, c)) {
                    on += w.equals(SOURCE) ? 0 : length(w, steps.get(w)) * amount;
                }
                ways.add(new int[] {ink + on, c.ring, c.turn});
                return;
            }
            for (int side = 0; side <= (c.ring == 1 ? 0 : 2); side++) {
                if (!rocks.contains(inwards(c, side))) {
                    allWays(inwards(c, side), ink + length(c, side) * (base + amount), amount, ways);
                }
            }
        }

        int best(int ring, int turn, int set) {
            Cell c = new Cell(ring, turn);
            if (!isCellOrSource(ring, turn) || rocks.contains(c) || set < 1 || set >= 1 << amounts.size()) {
                return -1;
            }
            Made m = best(c, set);
            return m == null ? -2 : m.ink;
        }

        int count(int what) {
            if (what < 0 || what > 9) {
                return -1;
            }
            int saved = what == 9 ? ink(4) == -2 ? -2 : inkAlone() - ink(4) : 0;
            return new int[] {rings, turns, amounts.size(), rocks.size(), base, bend, reach,
                amountOf((1 << amounts.size()) - 1), tape.size(), saved}[what];
        }
    }

    /** A text by its tokens: all of them are told first, then the faults. */
    static final class TextModel {
        record Token(int place, String text) {
        }

        private final List<Token> tokens = new ArrayList<>();
        private int k = 0;
        private int fault = 0;

        TextModel(String text) {
            Matcher m = Pattern.compile("([a-z]+|[0-9]+|;|[ \\n]+|[^a-z0-9; \\n])").matcher(text);
            while (m.find()) {
                if (!m.group().isBlank() || m.group().charAt(0) != ' ' && m.group().charAt(0) != '\n') {
                    tokens.add(new Token(m.start(), m.group()));
                }
            }
            tokens.add(new Token(text.length(), ""));
        }

        int fault(Model told) {
            int r = word("chart") ? number(2, 9) : -1;
            int n = number(6, 24);
            told.rings = r;
            told.turns = n;
            while (fault == 0 && !peek().text.isEmpty()) {
                if (!word(";")) {
                    break;
                }
                line(told);
            }
            return fault;
        }

        Token peek() {
            return tokens.get(k);
        }

        void fail(int place, int kind) {
            fault = fault == 0 ? 8 * place + kind : fault;
        }

        boolean word(String w) {
            if (fault == 0 && peek().text.equals(w)) {
                k++;
                return true;
            }
            fail(peek().place, 1);
            return false;
        }

        int number(int low, int high) {
            if (fault != 0) {
                return -1;
            }
            if (!peek().text.matches("[0-9]{1,3}")) {
                fail(peek().place, 1);
                return -1;
            }
            int v = Integer.parseInt(peek().text);
            if (v < low || v > high) {
                fail(peek().place, 2);
            }
            k++;
            return v;
        }

        void line(Model told) {
            String w = peek().text;
            int at = peek().place;
            switch (w) {
                case "place" -> {
                    if (told.amounts.size() == 7) {
                        fail(at, 4);
                    }
                    k++;
                    int ring = number(1, told.rings);
                    int turnAt = peek().place;
                    Cell c = new Cell(ring, number(0, told.turns - 1));
                    if (told.amounts.containsKey(c) || told.rocks.contains(c)) {
                        fail(turnAt, 3);
                    }
                    told.amounts.put(c, number(1, 99));
                }
                case "rocks" -> {
                    k++;
                    int ring = number(1, told.rings);
                    int turn = number(0, told.turns - 1);
                    int manyAt = peek().place;
                    int many = number(1, told.turns);
                    for (int i = 0; i < many && fault == 0; i++) {
                        Cell c = new Cell(ring, (turn + i) % told.turns);
                        if (told.amounts.containsKey(c)) {
                            fail(manyAt, 3);
                        }
                        told.rocks.add(c);
                    }
                }
                case "base" -> {
                    k++;
                    told.base = number(1, 99);
                }
                case "bend" -> {
                    k++;
                    told.bend = number(0, 40);
                }
                case "reach" -> {
                    k++;
                    told.reach = number(0, 6);
                }
                default -> fail(at, 1);
            }
        }
    }

    private static void same(int run, String call, int got, int due) {
        String kind = call.substring(0, call.indexOf('('));
        String answer = due == THROWS ? "throws" : due == -1 ? "NONE" : due == -2 ? "-2"
            : due < -2 ? "fault " + (-2 - due) % 8 : "other";
        answers.merge(kind + " " + answer, 1, Integer::sum);
        if (got != due) {
            wrong++;
            if (wrong < 40) {
                System.out.println("run " + run + ": " + call + " answered " + got + ", due is " + due);
            }
        }
    }

    private static int bool(boolean b) {
        return b ? 1 : 0;
    }

    private static int atOf(StreamTree x, int place, int what) {
        try {
            return x.at(place, what);
        } catch (NoSuchElementException e) {
            return THROWS;
        }
    }

    private final Random chance;
    private final StreamTree x = new StreamTree();
    private final Model m = new Model();
    private final int run;
    private int calls = 0;

    private ModelRuns(int run) {
        this.run = run;
        chance = new Random(run * 7919L + 13);
    }

    /** Within the bounds mostly, and just outside at times. */
    private int near(int low, int high) {
        int c = chance.nextInt(30);
        if (c == 0) {
            return low - 1;
        }
        if (c == 1) {
            return high + 1;
        }
        if (c == 2) {
            int[] far = {Integer.MIN_VALUE, Integer.MAX_VALUE, -7, 1000, 1 << 30, 255};
            return far[chance.nextInt(far.length)];
        }
        return low + chance.nextInt(Math.max(1, high - low + 1));
    }

    private String textByChance() {
        StringBuilder sb = new StringBuilder();
        String[] blanks = {" ", " ", " ", "\n", "  ", ""};
        sb.append("chart ").append(near(2, 9)).append(' ').append(near(6, 24));
        int rings = 5;
        int turns = 10;
        int lines = chance.nextInt(14);
        for (int i = 0; i < lines; i++) {
            sb.append(blanks[chance.nextInt(6)]).append(';').append(blanks[chance.nextInt(6)]);
            switch (chance.nextInt(8)) {
                case 0 -> sb.append("base ").append(near(1, 99));
                case 1 -> sb.append("bend").append(blanks[chance.nextInt(6)]).append(near(0, 40));
                case 2 -> sb.append("reach ").append(near(0, 6));
                case 3 -> sb.append("rocks ").append(chance.nextInt(rings) + 1).append(' ')
                    .append(chance.nextInt(turns)).append(' ').append(near(1, 6));
                default -> sb.append("place ").append(chance.nextInt(rings) + 1).append(' ')
                    .append(chance.nextInt(turns)).append(' ').append(near(1, 99));
            }
        }
        if (chance.nextInt(6) == 0) {
            int at = chance.nextInt(sb.length());
            String[] odd = {"x", ";", "7", "\t", "A", "\u00e9", "", " ", "-"};
            sb.replace(at, at + chance.nextInt(2), odd[chance.nextInt(odd.length)]);
        }
        if (chance.nextInt(12) == 0) {
            sb.setLength(chance.nextInt(sb.length() + 1));
        }
        return sb.toString();
    }

    private void feedBoth(String text) {
        for (int i = 0; i < text.length(); i += 20) {
            int[] v = new int[5];
            for (int k = 0; k < 20; k++) {
                int b = i + k < text.length() ? text.charAt(i + k) & 255 : 32;
                v[k / 4] |= b << (24 - 8 * (k % 4));
            }
            same(run, "feed()", x.feed(v[0], v[1], v[2], v[3], v[4]), m.feed(v));
        }
    }

    private void feedAndRead() {
        String text = textByChance();
        feedBoth(text);
        same(run, "count(8)", x.count(8), m.count(8));
        int n = chance.nextInt(10) == 0 ? near(0, 500) : text.length();
        same(run, "text(" + n + ") of '" + text + "'", x.text(n), m.text(n));
    }

    private void change() {
        int ring = near(1, m.rings);
        int turn = near(0, m.turns - 1);
        switch (chance.nextInt(14)) {
            case 0 -> {
                int r = near(2, 6);
                int n = near(6, chance.nextBoolean() ? 8 : 24);
                same(run, "chart(" + r + "," + n + ")", bool(x.chart(r, n)), bool(m.chart(r, n)));
            }
            case 1, 2, 3 -> {
                int what = near(0, 2);
                int v = near(what == 0 ? 1 : 0, what == 0 ? 99 : what == 1 ? 40 : 6);
                same(run, "set(" + what + "," + v + ")", x.set(what, v), m.set(what, v));
            }
            case 4, 5, 6, 7 -> {
                boolean is = chance.nextInt(4) != 0;
                same(run, "rock(" + ring + "," + turn + "," + is + ")", bool(x.rock(ring, turn, is)),
                    bool(m.rock(ring, turn, is)));
            }
            case 8 -> feedAndRead();
            default -> {
                int amount = chance.nextInt(3) == 0 ? 5 : near(0, 99);
                if (chance.nextInt(4) == 0 && !m.amounts.isEmpty()) {
                    Place p = m.places().get(chance.nextInt(m.amounts.size()));
                    ring = p.cell.ring;
                    turn = p.cell.turn;
                    amount = chance.nextInt(2) == 0 ? 0 : amount;
                }
                same(run, "place(" + ring + "," + turn + "," + amount + ")", x.place(ring, turn, amount),
                    m.place(ring, turn, amount));
            }
        }
    }

    private void ask() {
        int ring = near(0, m.rings);
        int turn = ring == 0 && chance.nextInt(4) != 0 ? 0 : near(0, m.turns - 1);
        int manner = near(1, 4);
        int what = near(0, 4);
        int few = near(0, 2);
        int place = near(0, m.amounts.size() - 1);
        int i = near(-1, 4);
        String cell = manner + "," + ring + "," + turn + ")";
        switch (chance.nextInt(14)) {
            case 0 -> same(run, "at(" + place + "," + few + ")", atOf(x, place, few), m.at(place, few));
            case 1 -> same(run, "ink(" + (manner - 1) + ")", x.ink(manner - 1), m.ink(manner - 1));
            case 2 -> same(run, "width(" + cell, x.width(manner, ring, turn), m.width(manner, ring, turn));
            case 3 -> same(run, "step(" + cell, x.step(manner, ring, turn), m.step(manner, ring, turn));
            case 4 -> same(run, "join(" + manner + "," + i + "," + few + ")", x.join(manner, i, few),
                m.join(manner, i, few));
            case 5 -> same(run, "drawn(" + manner + "," + what + ")", x.drawn(manner, what), m.drawn(manner, what));
            case 6 -> same(run, "way(" + manner + "," + place + "," + ring + ")", x.way(manner, place, ring),
                m.way(manner, place, ring));
            case 7 -> same(run, "borne(" + cell, x.borne(manner, ring, turn), m.borne(manner, ring, turn));
            case 8 -> same(run, "alone(" + place + ")", x.alone(place), m.alone(place));
            case 9 -> same(run, "costs(" + place + ")", x.costs(place), m.costs(place));
            case 10 -> {
                if (!m.rocks.isEmpty() && chance.nextInt(4) != 0) {
                    Cell r = new ArrayList<>(m.rocks).get(chance.nextInt(m.rocks.size()));
                    ring = r.ring;
                    turn = r.turn;
                }
                same(run, "bars(" + ring + "," + turn + ")", x.bars(ring, turn), m.bars(ring, turn));
            }
            case 11 -> {
                int amount = near(1, 99);
                same(run, "more(" + ring + "," + turn + "," + amount + "," + few + ")",
                    x.more(ring, turn, amount, few), m.more(ring, turn, amount, few));
            }
            case 12 -> {
                int set = near(1, (1 << m.amounts.size()) - 1);
                same(run, "best(" + ring + "," + turn + "," + set + ")", x.best(ring, turn, set),
                    m.best(ring, turn, set));
            }
            default -> {
                int c = near(0, 9);
                same(run, "count(" + c + ")", x.count(c), m.count(c));
            }
        }
    }

    /** All that can be asked of the trees as they stand. */
    private void askAllOfTrees() {
        for (int manner = 1; manner <= 4; manner++) {
            same(run, "ink(" + manner + ") of all", x.ink(manner), m.ink(manner));
            for (int ring = 0; ring <= m.rings; ring++) {
                for (int turn = 0; turn < (ring == 0 ? 1 : m.turns); turn++) {
                    String cell = manner + "," + ring + "," + turn + ") of all";
                    same(run, "width(" + cell, x.width(manner, ring, turn), m.width(manner, ring, turn));
                    same(run, "step(" + cell, x.step(manner, ring, turn), m.step(manner, ring, turn));
                    same(run, "borne(" + cell, x.borne(manner, ring, turn), m.borne(manner, ring, turn));
                }
            }
            for (int i = -1; i <= 7; i++) {
                for (int what = -1; what <= 5; what++) {
                    same(run, "join(" + manner + "," + i + "," + what + ") of all", x.join(manner, i, what),
                        m.join(manner, i, what));
                    same(run, "drawn(" + manner + "," + what + ") of all", x.drawn(manner, what),
                        m.drawn(manner, what));
                }
            }
        }
    }

    /** Few turns, places far out with like amounts, many rocks: so that branches meet and ways are shut. */
    private void crowd() {
        int r = 3 + chance.nextInt(7);
        int n = 6 + chance.nextInt(chance.nextBoolean() ? 5 : 19);
        same(run, "chart(" + r + "," + n + ")", bool(x.chart(r, n)), bool(m.chart(r, n)));
        int[] bends = {0, 0, 1, 4, 10, 40};
        int[] values = {1 + chance.nextInt(20), bends[chance.nextInt(6)], 6 - chance.nextInt(7) * chance.nextInt(2)};
        for (int what = 0; what < 3; what++) {
            same(run, "set(" + what + "," + values[what] + ")", x.set(what, values[what]), m.set(what, values[what]));
        }
        int like = 1 + chance.nextInt(30);
        boolean spread = chance.nextBoolean();
        for (int k = 0; k < 2 + chance.nextInt(6); k++) {
            int ring = r - chance.nextInt(spread || chance.nextInt(4) == 0 ? r : 2);
            int turn = chance.nextInt(n);
            int amount = chance.nextInt(3) == 0 ? 1 + chance.nextInt(99) : like;
            same(run, "place(" + ring + "," + turn + "," + amount + ")", x.place(ring, turn, amount),
                m.place(ring, turn, amount));
        }
        int rocks = chance.nextInt(3) == 0 ? 0 : chance.nextInt(r * n / (2 + chance.nextInt(6)) + 1);
        for (int k = 0; k < rocks; k++) {
            int ring = 1 + chance.nextInt(r);
            int turn = chance.nextInt(n);
            same(run, "rock(" + ring + "," + turn + ")", bool(x.rock(ring, turn, true)), bool(m.rock(ring, turn, true)));
        }
    }

    /** Only the steps of the two that lean, over many crowds: few of them have something to straighten. */
    private void lookAtSteps() {
        for (int k = 0; k < 10; k++) {
            crowd();
            boolean straightens = m.tree(2) != null && !m.tree(2).equals(m.tree(3));
            answers.merge("something to straighten: " + straightens, 1, Integer::sum);
            for (int manner = 2; manner <= 3; manner++) {
                for (int ring = 1; ring <= m.rings; ring++) {
                    for (int turn = 0; turn < m.turns; turn++) {
                        same(run, "step(" + manner + "," + ring + "," + turn + ") of a crowd",
                            x.step(manner, ring, turn), m.step(manner, ring, turn));
                    }
                }
            }
        }
    }

    /** Couples that lie across are rare by chance; these charts have some, the last five two of them. */
    private void lookAtKnots() {
        String[] knots = {
            "chart 2 6;place 2 0 1;place 1 1 1;place 2 1 1;place 2 5 1",
            "chart 2 6;place 2 0 1;place 1 1 1;place 2 1 1;place 2 5 1;rocks 1 4 2",
            "chart 5 6;place 2 0 1;place 2 4 1;place 5 4 1;place 2 5 1;rocks 1 1 4;rocks 2 2 2;rocks 3 3 2;rocks 4 4 2",
            "chart 4 8;place 2 2 1;place 1 2 1;place 4 2 1;place 3 7 1;place 2 1 1",
            "chart 4 8;place 4 7 1;place 4 2 1;place 1 2 1;place 4 4 1;place 3 2 1;place 1 3 1;place 3 1 1",
            "chart 5 6;place 1 2 1;place 3 3 1;place 2 3 1;place 2 4 1;place 2 2 1;place 5 0 1;place 5 4 1",
            "chart 6 7;place 5 0 1;place 3 5 1;place 1 3 1;place 2 3 1;place 3 4 1;place 2 4 1;place 2 5 1",
            "chart 6 10;place 4 8 1;place 5 8 1;place 6 4 1;place 1 8 1;place 4 7 1;place 4 9 1;place 6 0 1",
            "chart 4 6;place 1 1 1;place 4 5 1;place 4 1 1;place 3 1 1;place 3 3 1;place 4 0 1;place 1 2 1;rocks 2 3 2"
                + ";rocks 3 5 1",
            "chart 6 9;place 3 2 1;place 3 1 1;place 1 0 1;place 5 7 1;place 5 2 1;place 4 0 1;place 4 4 1;rocks 3 5 1"
                + ";rocks 4 2 1;rocks 5 3 1"};
        for (int k = 0; k < knots.length; k++) {
            String text = knots[k] + ";bend 0";
            feedBoth(text);
            same(run, "text(" + text.length() + ") of '" + text + "'", x.text(text.length()), m.text(text.length()));
            same(run, "drawn(4,1) of '" + text + "'", m.drawn(4, 1), k < 5 ? 1 : 2);
            askAllOfTrees();
            for (int turn = 0; turn < m.turns; turn++) {
                same(run, "more() of a knot", x.more(m.rings, turn, 9, 0), m.more(m.rings, turn, 9, 0));
            }
        }
    }

    private void go() {
        boolean often = run % 3 == 0;
        if (run % 2 == 0) {
            crowd();
            askAllOfTrees();
        }
        for (calls = 0; calls < 250; calls++) {
            if (chance.nextInt(often ? 2 : 5) == 0) {
                change();
            } else {
                ask();
            }
        }
        crowd();
        for (int k = 0; k < 50; k++) {
            ask();
        }
        askAllOfTrees();
        lookAtSteps();
    }

    public static void main(String[] args) {
        int runs = args.length > 0 ? Integer.parseInt(args[0]) : 600;
        for (int run = 0; run < runs; run++) {
            new ModelRuns(run).go();
        }
        new ModelRuns(runs).lookAtKnots();
        System.out.println(answers);
        System.out.println(wrong == 0 ? "all answers are as the model's" : wrong + " answers are not as the model's");
        if (wrong != 0) {
            System.exit(1);
        }
    }
}
