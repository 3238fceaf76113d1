import java.util.Arrays;
import java.util.NoSuchElementException;

/**
 * One source's flows to many places, drawn as a branching stream on a round chart of rings and turns.
 */
public final class StreamTree {
    public static final int NONE = -1;

    private static final int NO_TREE = -2;

    private static final int LEAST_RINGS = 2;
    private static final int MOST_RINGS = 9;
    private static final int LEAST_TURNS = 6;
    private static final int MOST_TURNS = 24;
    private static final int MOST_PLACES = 7;
    private static final int MOST_AMOUNT = 99;
    private static final int LEAST_BASE = 1;
    private static final int MOST_BASE = 99;
    private static final int MOST_BEND = 40;
    private static final int MOST_REACH = 6;
    private static final int TAPE_BYTES = 500;
    private static final int FEED_BYTES = 20;

    /** A cell's number is its ring times MOST_TURNS and its turn; the source is cell 0. */
    private static final int CELLS = (MOST_RINGS + 1) * MOST_TURNS;
    private static final int SOURCE = 0;
    private static final int SETS = 1 << MOST_PLACES;

    private static final int STRAIGHT = 0;
    private static final int LEFT = 1;
    private static final int RIGHT = 2;
    private static final int STEP_LENGTH = 10;
    private static final int ABOVE_ALL_INK = 1 << 30;

    private static final int MANNER_ALONE = 0;
    private static final int MANNER_STRAIGHT = 1;
    private static final int MANNER_LEAN = 2;
    private static final int MANNER_STRAIGHTENED = 3;
    private static final int MANNER_LEAST = 4;

    private final Tape tape = new Tape();
    private Chart now = new Chart();
    private Chart draft = new Chart();
    private final Bests bests = new Bests();
    private final Tree straight = new Tree();
    private final Tree lean = new Tree();
    private final Tree straightened = new Tree();
    private final Tree least = new Tree();
    private final Newcomer newcomer = new Newcomer();

    public StreamTree() {
    }

    public int feed(int a, int b, int c, int d, int e) {
        if (tape.length > TAPE_BYTES - FEED_BYTES) {
            return NONE;
        }
        tape.putNumber(a);
        tape.putNumber(b);
        tape.putNumber(c);
        tape.putNumber(d);
        tape.putNumber(e);
        return tape.length;
    }

    public int text(int n) {
        if (n < 0 || n > tape.length) {
            return NONE;
        }
        int fault = tape.readText(n, draft);
        tape.length = 0;
        if (fault != 0) {
            return -2 - fault;
        }
        Chart told = draft;
        draft = now;
        now = told;
        forgetDrawings();
        return now.places;
    }

    public boolean chart(int rings, int turns) {
        if (!isWithin(rings, LEAST_RINGS, MOST_RINGS) || !isWithin(turns, LEAST_TURNS, MOST_TURNS)) {
            return false;
        }
        now.clear(rings, turns);
        forgetDrawings();
        return true;
    }

    public int place(int ring, int turn, int amount) {
        if (!now.hasCell(ring, turn) || !isWithin(amount, 0, MOST_AMOUNT) || now.rock[cellOf(ring, turn)]) {
            return NONE;
        }
        int there = now.placeAt(ring, turn);
        if (there == NONE && (amount == 0 || now.places >= MOST_PLACES)) {
            return NONE;
        }
        if (amount == 0) {
            now.removePlace(there);
        } else if (there == NONE) {
            now.addPlace(ring, turn, amount);
        } else {
            now.placeAmount[there] = amount;
        }
        forgetDrawings();
        return now.places;
    }

    public boolean rock(int ring, int turn, boolean is) {
        if (!now.hasCell(ring, turn) || now.rock[cellOf(ring, turn)] == is || now.placeAt(ring, turn) != NONE) {
            return false;
        }
        now.rock[cellOf(ring, turn)] = is;
        forgetDrawings();
        return true;
    }

    public int set(int what, int v) {
        int was = NONE;
        if (what == 0 && isWithin(v, LEAST_BASE, MOST_BASE)) {
            was = now.base;
            now.base = v;
        } else if (what == 1 && isWithin(v, 0, MOST_BEND)) {
            was = now.bend;
            now.bend = v;
        } else if (what == 2 && isWithin(v, 0, MOST_REACH)) {
            was = now.reach;
            now.reach = v;
        }
        if (was != NONE) {
            forgetDrawings();
        }
        return was;
    }

    public int at(int place, int what) throws NoSuchElementException {
        if (!hasPlace(place) || !isWithin(what, 0, 2)) {
            throw new NoSuchElementException("no such place, or nothing such of it");
        }
        if (what == 0) {
            return now.placeRing[place];
        }
        return what == 1 ? now.placeTurn[place] : now.placeAmount[place];
    }

    public int ink(int manner) {
        if (manner == MANNER_ALONE) {
            return knownBests().inkOfAllAlone(now);
        }
        if (!isTreeManner(manner)) {
            return NONE;
        }
        Tree tree = treeOf(manner);
        return tree.exists ? tree.totalInk : NO_TREE;
    }

    public int width(int manner, int ring, int turn) {
        if (!isTreeManner(manner) || !now.hasCellOrSource(ring, turn)) {
            return NONE;
        }
        Tree tree = treeOf(manner);
        return tree.exists ? now.amountOf(tree.bits[cellOf(ring, turn)]) : NO_TREE;
    }

    public int step(int manner, int ring, int turn) {
        if (!isTreeManner(manner) || !now.hasCellOrSource(ring, turn)) {
            return NONE;
        }
        Tree tree = treeOf(manner);
        return tree.exists ? tree.side[cellOf(ring, turn)] : NO_TREE;
    }

    public int join(int manner, int i, int what) {
        if (!isTreeManner(manner) || i < NONE || !isWithin(what, 0, 2)) {
            return NONE;
        }
        Tree tree = treeOf(manner);
        if (!tree.exists) {
            return NO_TREE;
        }
        return i == NONE ? tree.joins(now) : tree.tellJoin(now, i, what);
    }

    public int drawn(int manner, int what) {
        if (!isTreeManner(manner) || !isWithin(what, 0, 4)) {
            return NONE;
        }
        Tree tree = treeOf(manner);
        if (!tree.exists) {
            return NO_TREE;
        }
        switch (what) {
            case 0:
                return tree.bends();
            case 1:
                return tree.couplesAcross(now);
            case 2:
                return tree.steps(now);
            case 3:
                return tree.mostOfOneRing(now);
            default:
                return tree.greatestWidth(now);
        }
    }

    public int way(int manner, int place, int ring) {
        if (!isTreeManner(manner) || !hasPlace(place) || !isWithin(ring, 0, now.rings)) {
            return NONE;
        }
        Tree tree = treeOf(manner);
        if (!tree.exists) {
            return NO_TREE;
        }
        return ring > now.placeRing[place] ? NONE : tree.turnOnWay(now, place, ring);
    }

    public int borne(int manner, int ring, int turn) {
        if (!isTreeManner(manner) || !now.hasCell(ring, turn)) {
            return NONE;
        }
        Tree tree = treeOf(manner);
        return tree.exists ? tree.bits[cellOf(ring, turn)] : NO_TREE;
    }

    public int alone(int place) {
        if (!hasPlace(place)) {
            return NONE;
        }
        return knownBests().inkOf(SOURCE, 1 << place);
    }

    public int costs(int place) {
        if (!hasPlace(place)) {
            return NONE;
        }
        int all = now.allPlaces();
        int with = knownBests().inkOf(SOURCE, all);
        return with == NO_TREE ? NO_TREE : with - bests.inkOf(SOURCE, all ^ (1 << place));
    }

    public int bars(int ring, int turn) {
        if (!now.hasCell(ring, turn) || !now.rock[cellOf(ring, turn)]) {
            return NONE;
        }
        Tree tree = treeOf(MANNER_LEAST);
        return tree.exists ? tree.totalInk - leastInkWithoutRock(cellOf(ring, turn)) : NO_TREE;
    }

    public int more(int ring, int turn, int amount, int what) {
        if (!now.hasCell(ring, turn) || !isWithin(amount, 1, MOST_AMOUNT) || !isWithin(what, 0, 2)
                || now.rock[cellOf(ring, turn)]) {
            return NONE;
        }
        Tree tree = treeOf(MANNER_LEAST);
        if (!tree.exists || !newcomer.findWay(now, tree, ring, turn, amount)) {
            return NO_TREE;
        }
        if (what == 0) {
            return newcomer.leastInk;
        }
        return what == 1 ? newcomer.joinRing : newcomer.joinTurn;
    }

    public int best(int ring, int turn, int set) {
        if (!now.hasCellOrSource(ring, turn) || !isWithin(set, 1, now.allPlaces())
                || now.rock[cellOf(ring, turn)]) {
            return NONE;
        }
        return knownBests().inkOf(cellOf(ring, turn), set);
    }

    public int count(int what) {
        switch (what) {
            case 0:
                return now.rings;
            case 1:
                return now.turns;
            case 2:
                return now.places;
            case 3:
                return now.rocks();
            case 4:
                return now.base;
            case 5:
                return now.bend;
            case 6:
                return now.reach;
            case 7:
                return now.amountOf(now.allPlaces());
            case 8:
                return tape.length;
            case 9:
                return knownBests().inkSavedByLeast(now);
            default:
                return NONE;
        }
    }

    private static boolean isWithin(int v, int low, int high) {
        return v >= low && v <= high;
    }

    private static int cellOf(int ring, int turn) {
        return ring * MOST_TURNS + turn;
    }

    private static boolean isTreeManner(int manner) {
        return isWithin(manner, MANNER_STRAIGHT, MANNER_LEAST);
    }

    private boolean hasPlace(int place) {
        return place >= 0 && place < now.places;
    }

    private void forgetDrawings() {
        bests.known = false;
        straight.known = false;
        lean.known = false;
        straightened.known = false;
        least.known = false;
    }

    private Bests knownBests() {
        if (!bests.known) {
            bests.fill(now);
        }
        return bests;
    }

    private Tree treeOf(int manner) {
        if (manner == MANNER_STRAIGHT) {
            if (!straight.known) {
                Drawing.drawStraight(now, straight);
            }
            return straight;
        }
        if (manner == MANNER_LEAST) {
            if (!bests.known && !least.known) {
                bests.fill(now);
            }
            if (!least.known) {
                Drawing.drawLeast(now, bests, least);
            }
            return least;
        }
        if (!lean.known) {
            Drawing.drawLean(now, lean);
        }
        if (manner == MANNER_STRAIGHTENED && !straightened.known) {
            Drawing.drawStraightened(now, lean, straightened);
        }
        return manner == MANNER_STRAIGHTENED ? straightened : lean;
    }

    /** The table of bests is used for this and forgotten: a second one would be as large again. */
    private int leastInkWithoutRock(int cell) {
        now.rock[cell] = false;
        bests.fill(now);
        int ink = bests.inkOf(SOURCE, now.allPlaces());
        now.rock[cell] = true;
        bests.known = false;
        return ink;
    }

    /** Rings, turns, places, rocks and the three numbers: all that a text can tell. */
    private static final class Chart {
        int rings;
        int turns;
        int base;
        int bend;
        int reach;
        int places;
        final int[] placeRing = new int[MOST_PLACES];
        final int[] placeTurn = new int[MOST_PLACES];
        final int[] placeAmount = new int[MOST_PLACES];
        final boolean[] rock = new boolean[CELLS];

        Chart() {
            beginAnew(5, 12);
        }

        void beginAnew(int newRings, int newTurns) {
            clear(newRings, newTurns);
            base = 10;
            bend = 4;
            reach = 3;
        }

        void clear(int newRings, int newTurns) {
            rings = newRings;
            turns = newTurns;
            places = 0;
            for (int cell = 0; cell < CELLS; cell++) {
                rock[cell] = false;
            }
        }

        boolean hasCell(int ring, int turn) {
            return isWithin(ring, 1, rings) && isWithin(turn, 0, turns - 1);
        }

        boolean hasCellOrSource(int ring, int turn) {
            return hasCell(ring, turn) || ring == 0 && turn == 0;
        }

        int placeAt(int ring, int turn) {
            for (int p = 0; p < places; p++) {
                if (placeRing[p] == ring && placeTurn[p] == turn) {
                    return p;
                }
            }
            return NONE;
        }

        boolean isPlaceBehind(int p, int ring, int turn) {
            return placeTurn[p] > turn || placeTurn[p] == turn && placeRing[p] > ring;
        }

        void addPlace(int ring, int turn, int amount) {
            if (places >= MOST_PLACES) {
                return;
            }
            int p = places;
            while (p > 0 && isPlaceBehind(p - 1, ring, turn)) {
                movePlace(p - 1, p);
                p--;
            }
            placeRing[p] = ring;
            placeTurn[p] = turn;
            placeAmount[p] = amount;
            places++;
        }

        void removePlace(int gone) {
            for (int p = gone + 1; p < places; p++) {
                movePlace(p, p - 1);
            }
            places--;
        }

        void movePlace(int from, int to) {
            placeRing[to] = placeRing[from];
            placeTurn[to] = placeTurn[from];
            placeAmount[to] = placeAmount[from];
        }

        int allPlaces() {
            return (1 << places) - 1;
        }

        int amountOf(int bits) {
            int sum = 0;
            for (int p = 0; p < places; p++) {
                if ((bits & (1 << p)) != 0) {
                    sum += placeAmount[p];
                }
            }
            return sum;
        }

        int rocks() {
            int sum = 0;
            for (int cell = 0; cell < CELLS; cell++) {
                if (rock[cell]) {
                    sum++;
                }
            }
            return sum;
        }

        int turnsOf(int ring) {
            return ring == 0 ? 1 : turns;
        }

        int turnBeside(int turn, int side) {
            if (side == LEFT) {
                return turn == 0 ? turns - 1 : turn - 1;
            }
            if (side == RIGHT) {
                return turn == turns - 1 ? 0 : turn + 1;
            }
            return turn;
        }

        int cellInwards(int ring, int turn, int side) {
            return ring <= 1 ? SOURCE : cellOf(ring - 1, turnBeside(turn, side));
        }

        int lengthOf(int side) {
            return side == STRAIGHT ? STEP_LENGTH : STEP_LENGTH + bend;
        }

        int inkOfStep(int side, int amount) {
            return lengthOf(side) * (base + amount);
        }
    }

    /** The bytes that were fed, and how they are read as a text. */
    private static final class Tape {
        private static final int END = 0;
        private static final int WORD = 1;
        private static final int NUMBER = 2;
        private static final int SEMICOLON = 3;
        private static final int NO_TOKEN = 4;
        private static final int MOST_DIGITS = 3;

        private static final int UNFIT = 1;
        private static final int OUT_OF_BOUNDS = 2;
        private static final int TAKEN = 3;
        private static final int TOO_MANY = 4;

        int length;
        private final int[] bytes = new int[TAPE_BYTES];
        private int end;
        private int next;
        private int kind;
        private int start;
        private int value;
        private int fault;

        void putNumber(int number) {
            for (int shift = 24; shift >= 0 && length < TAPE_BYTES; shift -= 8) {
                bytes[length] = (number >>> shift) & 255;
                length++;
            }
        }

        /** Answers the fault, or 0; the chart is worth nothing if there is a fault. */
        int readText(int n, Chart into) {
            end = Math.min(n, length);
            next = 0;
            fault = 0;
            readHead(into);
            // Each line takes a byte or more, so there are no more lines than bytes.
            for (int line = 0; line <= end && fault == 0; line++) {
                readToken();
                if (kind == END) {
                    break;
                }
                if (kind == SEMICOLON) {
                    readLine(into);
                } else {
                    fail(UNFIT);
                }
            }
            return fault;
        }

        void readHead(Chart into) {
            readToken();
            if (!isWord("chart")) {
                fail(UNFIT);
            }
            int rings = readNumber(LEAST_RINGS, MOST_RINGS);
            int turns = readNumber(LEAST_TURNS, MOST_TURNS);
            if (fault == 0) {
                into.beginAnew(rings, turns);
            }
        }

        void readLine(Chart into) {
            readToken();
            if (isWord("place")) {
                readPlace(into);
            } else if (isWord("rocks")) {
                readRocks(into);
            } else if (isWord("base")) {
                into.base = readNumber(LEAST_BASE, MOST_BASE);
            } else if (isWord("bend")) {
                into.bend = readNumber(0, MOST_BEND);
            } else if (isWord("reach")) {
                into.reach = readNumber(0, MOST_REACH);
            } else {
                fail(UNFIT);
            }
        }

        void readPlace(Chart into) {
            if (into.places >= MOST_PLACES) {
                fail(TOO_MANY);
            }
            int ring = readNumber(1, into.rings);
            int turn = readNumber(0, into.turns - 1);
            if (fault == 0 && (into.rock[cellOf(ring, turn)] || into.placeAt(ring, turn) != NONE)) {
                fail(TAKEN);
            }
            int amount = readNumber(1, MOST_AMOUNT);
            if (fault == 0) {
                into.addPlace(ring, turn, amount);
            }
        }

        void readRocks(Chart into) {
            int ring = readNumber(1, into.rings);
            int turn = readNumber(0, into.turns - 1);
            int many = readNumber(1, into.turns);
            for (int k = 0; k < many && fault == 0; k++) {
                if (into.placeAt(ring, turn) != NONE) {
                    fail(TAKEN);
                }
                into.rock[cellOf(ring, turn)] = true;
                turn = into.turnBeside(turn, RIGHT);
            }
        }

        /** The next token as a number of these bounds; behind a fault nothing is read and the answer is low. */
        int readNumber(int low, int high) {
            if (fault != 0) {
                return low;
            }
            readToken();
            if (kind != NUMBER) {
                fail(UNFIT);
                return low;
            }
            if (!isWithin(value, low, high)) {
                fail(OUT_OF_BOUNDS);
                return low;
            }
            return value;
        }

        void fail(int faultKind) {
            if (fault == 0) {
                fault = 8 * start + faultKind;
            }
        }

        void readToken() {
            while (next < end && (bytes[next] == 32 || bytes[next] == 10)) {
                next++;
            }
            start = next;
            value = 0;
            kind = next < end ? kindOf(bytes[next]) : END;
            boolean stands = kind == WORD || kind == NUMBER;
            while (stands && next < end && kindOf(bytes[next]) == kind) {
                // A fourth digit makes it no number at all, so the value need not grow further.
                if (kind == NUMBER && next - start < MOST_DIGITS) {
                    value = 10 * value + bytes[next] - '0';
                }
                next++;
            }
            if (kind == SEMICOLON) {
                next++;
            } else if (kind == NUMBER && next - start > MOST_DIGITS) {
                kind = NO_TOKEN;
            }
        }

        static int kindOf(int b) {
            if (b >= 'a' && b <= 'z') {
                return WORD;
            }
            if (b >= '0' && b <= '9') {
                return NUMBER;
            }
            return b == ';' ? SEMICOLON : NO_TOKEN;
        }

        boolean isWord(String word) {
            if (kind != WORD || next - start != word.length()) {
                return false;
            }
            for (int k = 0; k < word.length(); k++) {
                if (bytes[start + k] != word.charAt(k)) {
                    return false;
                }
            }
            return true;
        }
    }

    /** The table of BEST: for each cell and each set of places that can come to it, the least ink till there. */
    private static final class Bests {
        boolean known;
        /** What choose() found: its ink, and either the one part of two, or the cell (and side) that a step comes from. */
        int chosenInk;
        int chosenPart;
        int chosenFrom;
        int chosenSide;
        private final int[] reaching = new int[CELLS];
        private final int[] placeBit = new int[CELLS];
        private final int[] inks = new int[CELLS * SETS];
        private final int[] straightInk = new int[SETS];
        private final int[] bentInk = new int[SETS];
        private final int[] waiting = new int[2 * MOST_PLACES];

        void fill(Chart chart) {
            notePlaces(chart);
            noteSteps(chart);
            for (int ring = chart.rings; ring >= 1; ring--) {
                for (int turn = 0; turn < chart.turns; turn++) {
                    int cell = cellOf(ring, turn);
                    reaching[cell] = chart.rock[cell] ? 0 : placeBit[cell] | reachingFromOutside(chart, ring, turn);
                    fillCell(chart, ring, turn);
                }
            }
            reaching[SOURCE] = reachingSource(chart);
            fillCell(chart, 0, 0);
            known = true;
        }

        int inkOf(int cell, int set) {
            if (set == 0) {
                return 0;
            }
            return comesTo(cell, set) ? inks[cell * SETS + set] : NO_TREE;
        }

        boolean comesTo(int cell, int set) {
            return (set & ~reaching[cell]) == 0;
        }

        /** Each place by its way of least ink, as if the others were not. */
        int inkOfAllAlone(Chart chart) {
            int sum = 0;
            for (int p = 0; p < chart.places; p++) {
                int ink = inkOf(SOURCE, 1 << p);
                if (ink == NO_TREE) {
                    return NO_TREE;
                }
                sum += ink;
            }
            return sum;
        }

        int inkSavedByLeast(Chart chart) {
            int apart = inkOfAllAlone(chart);
            return apart == NO_TREE ? NO_TREE : apart - inkOf(SOURCE, chart.allPlaces());
        }

        /** Finds the first least of what makes a set at a cell, by the document's order. */
        void choose(Chart chart, int ring, int turn, int set) {
            int cell = cellOf(ring, turn);
            chosenInk = ABOVE_ALL_INK;
            chosenPart = 0;
            chosenFrom = NONE;
            chosenSide = NONE;
            if (set == placeBit[cell]) {
                chosenInk = 0;
                return;
            }
            tryParts(cell, set);
            if (ring == 0) {
                for (int t = 0; t < chart.turns; t++) {
                    tryStep(cellOf(1, t), STRAIGHT, set);
                }
            } else if (ring < chart.rings) {
                tryStep(cellOf(ring + 1, turn), STRAIGHT, set);
                tryStep(cellOf(ring + 1, chart.turnBeside(turn, LEFT)), RIGHT, set);
                tryStep(cellOf(ring + 1, chart.turnBeside(turn, RIGHT)), LEFT, set);
            }
        }

        private void tryParts(int cell, int set) {
            int row = cell * SETS;
            int leastPlace = set & -set;
            int rest = set ^ leastPlace;
            int subsets = 1 << Integer.bitCount(rest);
            int sub = 0;
            for (int k = 1; k < subsets; k++) {
                int part = leastPlace | sub;
                int ink = inks[row + part] + inks[row + (set ^ part)];
                if (ink < chosenInk) {
                    chosenInk = ink;
                    chosenPart = part;
                }
                sub = nextSubset(sub, rest);
            }
        }

        private void tryStep(int from, int side, int set) {
            if (!comesTo(from, set)) {
                return;
            }
            int ink = inks[from * SETS + set] + (side == STRAIGHT ? straightInk[set] : bentInk[set]);
            if (ink < chosenInk) {
                chosenInk = ink;
                chosenPart = 0;
                chosenFrom = from;
                chosenSide = side;
            }
        }

        private void notePlaces(Chart chart) {
            Arrays.fill(placeBit, 0);
            for (int p = 0; p < chart.places; p++) {
                placeBit[cellOf(chart.placeRing[p], chart.placeTurn[p])] = 1 << p;
            }
        }

        private void noteSteps(Chart chart) {
            for (int set = 1; set <= chart.allPlaces() && set < SETS; set++) {
                int amount = chart.amountOf(set);
                straightInk[set] = chart.inkOfStep(STRAIGHT, amount);
                bentInk[set] = chart.inkOfStep(LEFT, amount);
            }
        }

        private int reachingFromOutside(Chart chart, int ring, int turn) {
            if (ring >= chart.rings) {
                return 0;
            }
            return reaching[cellOf(ring + 1, turn)]
                    | reaching[cellOf(ring + 1, chart.turnBeside(turn, LEFT))]
                    | reaching[cellOf(ring + 1, chart.turnBeside(turn, RIGHT))];
        }

        private int reachingSource(Chart chart) {
            int bits = 0;
            for (int turn = 0; turn < chart.turns; turn++) {
                bits |= reaching[cellOf(1, turn)];
            }
            return bits;
        }

        /** The sets rise, so that a set's parts stand in the table ahead of it. */
        private void fillCell(Chart chart, int ring, int turn) {
            int cell = cellOf(ring, turn);
            int subsets = 1 << Integer.bitCount(reaching[cell]);
            int set = 0;
            for (int k = 1; k < subsets; k++) {
                set = nextSubset(set, reaching[cell]);
                choose(chart, ring, turn, set);
                inks[cell * SETS + set] = chosenInk;
            }
        }

        /** Draws into a tree the steps that come to a cell whose set is drawn already. */
        void unfold(Chart chart, Tree tree, int ring, int turn) {
            waiting[0] = tree.bits[cellOf(ring, turn)];
            int many = waiting[0] == 0 ? 0 : 1;
            // A set of seven is parted six times, so thirteen sets are looked at.
            for (int k = 0; k < 2 * MOST_PLACES && many > 0; k++) {
                many--;
                int set = waiting[many];
                choose(chart, ring, turn, set);
                if (chosenPart != 0 && many + 2 <= waiting.length) {
                    waiting[many] = chosenPart;
                    waiting[many + 1] = set ^ chosenPart;
                    many += 2;
                } else if (chosenFrom != NONE) {
                    tree.bits[chosenFrom] = set;
                    tree.side[chosenFrom] = chosenSide;
                }
            }
        }

        /** The bits that are not in whole are filled up, so that a carry runs through them. */
        private static int nextSubset(int sub, int whole) {
            return (sub - whole) & whole;
        }
    }

    /** One manner's drawing: what comes to each cell, and to which side its step goes. */
    private static final class Tree {
        boolean known;
        boolean exists;
        int totalInk;
        final int[] bits = new int[CELLS];
        final int[] side = new int[CELLS];

        void clear() {
            Arrays.fill(bits, 0);
            Arrays.fill(side, NONE);
        }

        void clearButPlaces(Chart chart) {
            clear();
            for (int p = 0; p < chart.places; p++) {
                bits[cellOf(chart.placeRing[p], chart.placeTurn[p])] = 1 << p;
            }
        }

        void copyFrom(Tree other) {
            System.arraycopy(other.bits, 0, bits, 0, CELLS);
            System.arraycopy(other.side, 0, side, 0, CELLS);
        }

        void finish(Chart chart, boolean whole) {
            known = true;
            exists = whole;
            totalInk = whole ? sumOfInk(chart) : 0;
        }

        boolean bendsAt(int cell) {
            return side[cell] == LEFT || side[cell] == RIGHT;
        }

        /** How many come to a cell: steps, and a place there as one. */
        int comersToCell(Chart chart, int ring, int turn) {
            int sum = chart.placeAt(ring, turn) == NONE ? 0 : 1;
            if (ring < chart.rings) {
                sum += side[cellOf(ring + 1, turn)] == STRAIGHT ? 1 : 0;
                sum += side[cellOf(ring + 1, chart.turnBeside(turn, LEFT))] == RIGHT ? 1 : 0;
                sum += side[cellOf(ring + 1, chart.turnBeside(turn, RIGHT))] == LEFT ? 1 : 0;
            }
            return sum;
        }

        int comers(Chart chart, int ring, int turn) {
            return ring == 0 ? branchesOf(chart, 1) : comersToCell(chart, ring, turn);
        }

        int joins(Chart chart) {
            int sum = 0;
            for (int ring = chart.rings; ring >= 0; ring--) {
                for (int turn = 0; turn < chart.turnsOf(ring); turn++) {
                    if (comers(chart, ring, turn) >= 2) {
                        sum++;
                    }
                }
            }
            return sum;
        }

        int tellJoin(Chart chart, int i, int what) {
            int left = i;
            for (int ring = chart.rings; ring >= 0; ring--) {
                for (int turn = 0; turn < chart.turnsOf(ring); turn++) {
                    int many = comers(chart, ring, turn);
                    if (many >= 2 && left == 0) {
                        return what == 0 ? ring : what == 1 ? turn : many;
                    }
                    left -= many >= 2 ? 1 : 0;
                }
            }
            return NONE;
        }

        int branchesOf(Chart chart, int ring) {
            int sum = 0;
            for (int turn = 0; turn < chart.turns; turn++) {
                if (bits[cellOf(ring, turn)] != 0) {
                    sum++;
                }
            }
            return sum;
        }

        int steps(Chart chart) {
            int sum = 0;
            for (int ring = 1; ring <= chart.rings; ring++) {
                sum += branchesOf(chart, ring);
            }
            return sum;
        }

        int mostOfOneRing(Chart chart) {
            int most = 0;
            for (int ring = 1; ring <= chart.rings; ring++) {
                most = Math.max(most, branchesOf(chart, ring));
            }
            return most;
        }

        int bends() {
            int sum = 0;
            for (int cell = 0; cell < CELLS; cell++) {
                if (bendsAt(cell)) {
                    sum++;
                }
            }
            return sum;
        }

        int couplesAcross(Chart chart) {
            int sum = 0;
            for (int ring = 1; ring <= chart.rings; ring++) {
                for (int turn = 0; turn < chart.turns; turn++) {
                    int beside = cellOf(ring, chart.turnBeside(turn, RIGHT));
                    if (side[cellOf(ring, turn)] == RIGHT && side[beside] == LEFT) {
                        sum++;
                    }
                }
            }
            return sum;
        }

        int greatestWidth(Chart chart) {
            int most = 0;
            for (int ring = 1; ring <= chart.rings; ring++) {
                for (int turn = 0; turn < chart.turns; turn++) {
                    most = Math.max(most, chart.amountOf(bits[cellOf(ring, turn)]));
                }
            }
            return most;
        }

        int turnOnWay(Chart chart, int place, int toRing) {
            if (toRing == 0) {
                return 0;
            }
            int turn = chart.placeTurn[place];
            for (int ring = chart.placeRing[place]; ring > toRing; ring--) {
                turn = chart.turnBeside(turn, side[cellOf(ring, turn)]);
            }
            return turn;
        }

        /** The length of the way that the tree goes from a cell of it to the source. */
        int lengthFrom(Chart chart, int fromRing, int fromTurn) {
            int turn = fromTurn;
            int sum = 0;
            for (int ring = fromRing; ring >= 1; ring--) {
                int to = side[cellOf(ring, turn)];
                sum += chart.lengthOf(to);
                turn = chart.turnBeside(turn, to);
            }
            return sum;
        }

        private int sumOfInk(Chart chart) {
            int sum = 0;
            for (int ring = 1; ring <= chart.rings; ring++) {
                for (int turn = 0; turn < chart.turns; turn++) {
                    int cell = cellOf(ring, turn);
                    if (bits[cell] != 0) {
                        sum += chart.inkOfStep(side[cell], chart.amountOf(bits[cell]));
                    }
                }
            }
            return sum;
        }
    }

    /** How each manner's tree is drawn. */
    private static final class Drawing {
        static void drawStraight(Chart chart, Tree tree) {
            tree.clearButPlaces(chart);
            boolean whole = true;
            for (int ring = chart.rings; ring >= 1 && whole; ring--) {
                for (int turn = 0; turn < chart.turns; turn++) {
                    if (tree.bits[cellOf(ring, turn)] != 0 && chart.rock[chart.cellInwards(ring, turn, STRAIGHT)]) {
                        whole = false;
                    }
                    go(chart, tree, ring, turn, STRAIGHT);
                }
            }
            tree.finish(chart, whole);
        }

        static void drawLean(Chart chart, Tree tree) {
            tree.clearButPlaces(chart);
            boolean whole = true;
            for (int ring = chart.rings; ring >= 1 && whole; ring--) {
                whole = leanRing(chart, tree, ring);
            }
            tree.finish(chart, whole);
        }

        /** A ring's steps change nothing of that ring, so each can go at once and the next still wants rightly. */
        private static boolean leanRing(Chart chart, Tree tree, int ring) {
            for (int turn = 0; turn < chart.turns; turn++) {
                if (tree.bits[cellOf(ring, turn)] == 0) {
                    continue;
                }
                int wanted = ring == 1 ? STRAIGHT : wantedSide(chart, tree, ring, turn);
                int to = passableSide(chart, ring, turn, wanted);
                if (to == NONE) {
                    return false;
                }
                go(chart, tree, ring, turn, to);
            }
            return true;
        }

        private static int wantedSide(Chart chart, Tree tree, int ring, int turn) {
            int right = turnsToNext(chart, tree, ring, turn, RIGHT);
            int left = turnsToNext(chart, tree, ring, turn, LEFT);
            int nearest = Math.min(right, left);
            if (nearest >= chart.turns || nearest > chart.reach) {
                return STRAIGHT;
            }
            int toNearest = right <= left ? RIGHT : LEFT;
            if (nearest >= 2) {
                return toNearest;
            }
            int own = chart.amountOf(tree.bits[cellOf(ring, turn)]);
            int other = chart.amountOf(tree.bits[cellOf(ring, chart.turnBeside(turn, toNearest))]);
            boolean gives = own < other || own == other && toNearest == RIGHT;
            return gives ? toNearest : STRAIGHT;
        }

        /** How far the next other branch is to that side; all turns round if there is none. */
        private static int turnsToNext(Chart chart, Tree tree, int ring, int fromTurn, int toSide) {
            int turn = fromTurn;
            for (int far = 1; far < chart.turns; far++) {
                turn = chart.turnBeside(turn, toSide);
                if (tree.bits[cellOf(ring, turn)] != 0) {
                    return far;
                }
            }
            return chart.turns;
        }

        private static int passableSide(Chart chart, int ring, int turn, int wanted) {
            if (!chart.rock[chart.cellInwards(ring, turn, wanted)]) {
                return wanted;
            }
            for (int to = STRAIGHT; to <= RIGHT; to++) {
                if (!chart.rock[chart.cellInwards(ring, turn, to)]) {
                    return to;
                }
            }
            return NONE;
        }

        private static void go(Chart chart, Tree tree, int ring, int turn, int to) {
            int cell = cellOf(ring, turn);
            if (tree.bits[cell] != 0) {
                tree.side[cell] = to;
                tree.bits[chart.cellInwards(ring, turn, to)] |= tree.bits[cell];
            }
        }

        static void drawStraightened(Chart chart, Tree lean, Tree tree) {
            tree.copyFrom(lean);
            boolean changed = lean.exists;
            // Each change takes two bends away, so there are fewer goings through than cells.
            for (int k = 0; k < CELLS && changed; k++) {
                changed = straightenOnce(chart, tree);
            }
            tree.finish(chart, lean.exists);
        }

        private static boolean straightenOnce(Chart chart, Tree tree) {
            boolean changed = false;
            for (int ring = chart.rings; ring >= 3; ring--) {
                for (int turn = 0; turn < chart.turns; turn++) {
                    if (isDetour(chart, tree, ring, turn)) {
                        straighten(chart, tree, ring, turn);
                        changed = true;
                    }
                }
            }
            return changed;
        }

        private static boolean isDetour(Chart chart, Tree tree, int ring, int turn) {
            int cell = cellOf(ring, turn);
            if (!tree.bendsAt(cell)) {
                return false;
            }
            int besideTurn = chart.turnBeside(turn, tree.side[cell]);
            int between = cellOf(ring - 1, turn);
            return chart.placeAt(ring - 1, besideTurn) == NONE
                    && tree.comersToCell(chart, ring - 1, besideTurn) == 1
                    && tree.side[cellOf(ring - 1, besideTurn)] == otherSide(tree.side[cell])
                    && !chart.rock[between]
                    && tree.bits[between] == 0;
        }

        private static void straighten(Chart chart, Tree tree, int ring, int turn) {
            int cell = cellOf(ring, turn);
            int beside = chart.cellInwards(ring, turn, tree.side[cell]);
            int between = cellOf(ring - 1, turn);
            tree.bits[beside] = 0;
            tree.side[beside] = NONE;
            tree.bits[between] = tree.bits[cell];
            tree.side[between] = STRAIGHT;
            tree.side[cell] = STRAIGHT;
        }

        private static int otherSide(int to) {
            return to == LEFT ? RIGHT : LEFT;
        }

        static void drawLeast(Chart chart, Bests bests, Tree tree) {
            tree.clear();
            boolean whole = bests.comesTo(SOURCE, chart.allPlaces());
            if (whole) {
                tree.bits[SOURCE] = chart.allPlaces();
                for (int ring = 0; ring < chart.rings; ring++) {
                    for (int turn = 0; turn < chart.turnsOf(ring); turn++) {
                        bests.unfold(chart, tree, ring, turn);
                    }
                }
            }
            tree.finish(chart, whole);
        }
    }

    /** One more that would come to a tree: by which way of its own with the least ink. */
    private static final class Newcomer {
        int leastInk;
        int joinRing;
        int joinTurn;
        private boolean found;
        private final int[] ownLength = new int[CELLS];

        boolean findWay(Chart chart, Tree tree, int ring, int turn, int amount) {
            found = false;
            int first = cellOf(ring, turn);
            if (tree.bits[first] != 0) {
                offer(ring, turn, amount * tree.lengthFrom(chart, ring, turn));
                return true;
            }
            Arrays.fill(ownLength, NONE);
            ownLength[first] = 0;
            for (int r = ring; r >= 1; r--) {
                for (int t = 0; t < chart.turns; t++) {
                    if (ownLength[cellOf(r, t)] != NONE) {
                        goOn(chart, tree, r, t, amount);
                    }
                }
            }
            return found;
        }

        private void goOn(Chart chart, Tree tree, int ring, int turn, int amount) {
            int own = ownLength[cellOf(ring, turn)];
            if (ring == 1) {
                offer(0, 0, (own + STEP_LENGTH) * (chart.base + amount));
                return;
            }
            for (int side = STRAIGHT; side <= RIGHT; side++) {
                int toTurn = chart.turnBeside(turn, side);
                int to = cellOf(ring - 1, toTurn);
                int length = own + chart.lengthOf(side);
                if (tree.bits[to] != 0) {
                    int borneOn = amount * tree.lengthFrom(chart, ring - 1, toTurn);
                    offer(ring - 1, toTurn, length * (chart.base + amount) + borneOn);
                } else if (!chart.rock[to] && (ownLength[to] == NONE || length < ownLength[to])) {
                    ownLength[to] = length;
                }
            }
        }

        private void offer(int ring, int turn, int ink) {
            boolean inner = ring < joinRing || ring == joinRing && turn < joinTurn;
            if (!found || ink < leastInk || ink == leastInk && inner) {
                found = true;
                leastInk = ink;
                joinRing = ring;
                joinTurn = turn;
            }
        }
    }
}
