/** The bounds that promises 1 and 4 to 21 name, each under its own words; promises 2 and 3 are in TextEdges. */
public final class PromiseEdges {
    private static final int NONE = Due.NONE;
    private static final int NO_TREE = Due.NO_TREE;
    private static final int FAR = Due.FAR;
    private static final int DEEP = Due.DEEP;
    /** Just outside a chart of 3 rings and 8 turns, to all sides, and far off. */
    private static final int[][] NO_CELLS = {{4, 0}, {-1, 0}, {0, 1}, {0, -1}, {0, 7}, {1, 8}, {1, -1}, {3, 8}, {3, -1},
        {FAR, 0}, {DEEP, 0}, {1, FAR}, {1, DEEP}, {FAR, FAR}, {DEEP, DEEP}, {24, 0}, {1, 24}};
    private static final String CHART = "chart 3 8;place 3 0 20;place 2 0 5;place 3 4 7;rocks 1 6 1";
    /** The one of ring 3 is shut in. */
    private static final String SHUT = "chart 3 8;place 3 0 20;place 2 4 5;rocks 2 7 3";

    private static void newObject() {
        Due.sentence("promise 1", "5 RINGS, 12 TURNS");
        StreamTree x = new StreamTree();
        int[] first = {5, 12, 0, 0, 10, 4, 3, 0, 0, 0};
        for (int what = 0; what < first.length; what++) {
            Due.is("count(" + what + ")", x.count(what), first[what]);
        }
        Due.is("no rocks", Due.rocksOf(x).length(), 0);
        Due.throwsNoSuch(x, 0, 0);
        Due.is("the outmost and last", x.place(5, 11, 1), 1);
        Due.is("one further out", x.place(6, 11, 1), NONE);
        Due.is("one turn more", x.place(5, 12, 1), NONE);
        Due.is("another object has nothing of it", new StreamTree().count(2), 0);
    }

    private static void chart() {
        Due.sentence("promise 4", "A CHART without PLACES, ROCKS (BASE, BEND, REACH stay): true");
        StreamTree x = Due.told(CHART + ";base 99;bend 40;reach 6");
        x.feed(1, 2, 3, 4, 5);
        for (int manner = 0; manner <= 4; manner++) {
            Due.is("it is drawn, ink(" + manner + ")", x.ink(manner) > 0, true);
        }
        Due.is("the same again", x.chart(3, 8), true);
        for (int manner = 0; manner <= 4; manner++) {
            Due.is("drawings follow, ink(" + manner + ")", x.ink(manner), 0);
        }
        int[] then = {3, 8, 0, 0, 99, 40, 6, 0, 20, 0};
        for (int what = 0; what < then.length; what++) {
            Due.is("count(" + what + ")", x.count(what), then[what]);
        }
        Due.is("no rocks", Due.rocksOf(x).length(), 0);
        Due.is("no place", x.width(1, 3, 0), 0);
        int[][] edges = {{2, 6}, {2, 24}, {9, 6}, {9, 24}};
        for (int[] e : edges) {
            Due.is("chart(" + e[0] + ", " + e[1] + ")", x.chart(e[0], e[1]), true);
            Due.is("rings", x.count(0), e[0]);
            Due.is("turns", x.count(1), e[1]);
        }
        // What lay outside a smaller chart does not come back with a larger one.
        x.rock(9, 23, true);
        x.place(8, 22, 1);
        x.chart(2, 6);
        x.chart(9, 24);
        Due.is("no rock comes back", x.bars(9, 23), NONE);
        Due.is("no place comes back", x.count(2), 0);

        Due.sentence("promise 4", "false: others");
        StreamTree y = Due.told(CHART);
        Due.stays(y, () -> {
            int[][] others = {{1, 6}, {10, 6}, {2, 5}, {2, 25}, {1, 5}, {10, 25}, {9, 5}, {9, 25}, {1, 24}, {10, 24},
                {0, 0}, {-2, 6}, {2, -6}, {FAR, 6}, {2, FAR}, {DEEP, 6}, {2, DEEP}, {DEEP, FAR}};
            for (int[] o : others) {
                Due.is("chart(" + o[0] + ", " + o[1] + ")", y.chart(o[0], o[1]), false);
            }
        });
    }

    private static void place() {
        Due.sentence("promise 5", "A PLACE, or another AMOUNT for the one that is there; 0: it is none any more");
        StreamTree x = new StreamTree();
        Due.is("a place", x.place(5, 11, 1), 1);
        Due.is("another", x.place(1, 0, 99), 2);
        Due.is("another amount", x.place(5, 11, 99), 2);
        Due.is("it is so", x.at(1, 2), 99);
        Due.is("the same amount again", x.place(5, 11, 99), 2);
        Due.is("drawings follow", x.ink(1), 50 * 109 + 10 * 109);
        Due.is("none any more", x.place(1, 0, 0), 1);
        Due.is("the other one is the first then", x.at(0, 0), 5);
        Due.throwsNoSuch(x, 1, 0);
        Due.is("drawings follow", x.ink(4), 50 * 109);
        Due.is("the last one", x.place(5, 11, 0), 0);
        Due.is("drawings follow", x.ink(4), 0);
        Due.is("a place again", x.place(5, 11, 7), 1);

        Due.sentence("promise 5", "How many PLACES there are then; NONE: others");
        StreamTree y = Due.told(CHART);
        Due.stays(y, () -> {
            for (int[] c : NO_CELLS) {
                Due.is("place(" + c[0] + ", " + c[1] + ", 1)", y.place(c[0], c[1], 1), NONE);
                Due.is("place(" + c[0] + ", " + c[1] + ", 0)", y.place(c[0], c[1], 0), NONE);
            }
            Due.is("the source", y.place(0, 0, 1), NONE);
            Due.is("the source, none", y.place(0, 0, 0), NONE);
            for (int amount : new int[] {-1, 100, FAR, DEEP}) {
                Due.is("a new one of " + amount, y.place(1, 1, amount), NONE);
                Due.is("the one that is there, of " + amount, y.place(3, 0, amount), NONE);
            }
        });

        Due.sentence("promise 5", "a ROCK, none there (0), an eighth one");
        StreamTree z = Due.told(CHART);
        Due.stays(z, () -> {
            Due.is("a rock", z.place(1, 6, 1), NONE);
            Due.is("a rock, none there", z.place(1, 6, 0), NONE);
            Due.is("none there", z.place(1, 7, 0), NONE);
            Due.is("none there", z.place(2, 4, 0), NONE);
        });
        for (int p = 4; p <= 7; p++) {
            Due.is("place " + p, z.place(1, p - 4, p), p);
        }
        Due.stays(z, () -> {
            Due.is("an eighth one", z.place(1, 7, 1), NONE);
            Due.is("none there", z.place(1, 7, 0), NONE);
        });
        Due.is("another amount for one of seven", z.place(3, 0, 1), 7);
        Due.is("one of seven is none any more", z.place(3, 0, 0), 6);
        Due.is("then there is room", z.place(1, 7, 1), 7);
    }

    private static void rock() {
        Due.sentence("promise 6", "A CELL is a ROCK, or none: true");
        StreamTree x = new StreamTree();
        int[][] corners = {{1, 0}, {1, 11}, {5, 0}, {5, 11}};
        for (int[] c : corners) {
            Due.is("a rock", x.rock(c[0], c[1], true), true);
        }
        Due.is("four", x.count(3), 4);
        Due.is("these", Due.rocksOf(x).equals("<1 0><1 11><5 0><5 11>"), true);
        for (int[] c : corners) {
            Due.is("none", x.rock(c[0], c[1], false), true);
        }
        Due.is("none is left", x.count(3), 0);
        x.place(2, 3, 5);
        Due.is("straight", x.ink(1), 20 * 15);
        x.rock(1, 3, true);
        Due.is("drawings follow", x.ink(1), NO_TREE);
        Due.is("drawings follow", x.ink(4), 24 * 15);
        x.rock(1, 3, false);
        Due.is("drawings follow", x.ink(1), 20 * 15);
        Due.is("drawings follow", x.ink(4), 20 * 15);

        Due.sentence("promise 6", "false: others, it is so already, a PLACE is there");
        StreamTree y = Due.told(CHART);
        Due.stays(y, () -> {
            for (int[] c : NO_CELLS) {
                Due.is("rock(" + c[0] + ", " + c[1] + ", true)", y.rock(c[0], c[1], true), false);
                Due.is("rock(" + c[0] + ", " + c[1] + ", false)", y.rock(c[0], c[1], false), false);
            }
            Due.is("the source", y.rock(0, 0, true), false);
            Due.is("the source, none", y.rock(0, 0, false), false);
            Due.is("a rock already", y.rock(1, 6, true), false);
            Due.is("none already", y.rock(1, 7, false), false);
            Due.is("a place is there", y.rock(3, 0, true), false);
            Due.is("a place is there, none", y.rock(3, 0, false), false);
        });
        y.place(3, 0, 0);
        Due.is("a place was there", y.rock(3, 0, true), true);
    }

    private static void set() {
        Due.sentence("promise 7", "BASE (what 0), BEND (1), REACH (2): what it was; NONE: others");
        StreamTree x = Due.told(CHART);
        int[] was = {10, 4, 3};
        int[] low = {1, 0, 0};
        int[] high = {99, 40, 6};
        for (int what = 0; what < 3; what++) {
            Due.is("the least", x.set(what, low[what]), was[what]);
            Due.is("the most", x.set(what, high[what]), low[what]);
            Due.is("the same again", x.set(what, high[what]), high[what]);
        }
        Due.stays(x, () -> {
            for (int what = 0; what < 3; what++) {
                for (int v : new int[] {low[what] - 1, high[what] + 1, FAR, DEEP}) {
                    Due.is("set(" + what + ", " + v + ")", x.set(what, v), NONE);
                }
            }
            for (int what : new int[] {-1, 3, FAR, DEEP}) {
                Due.is("set(" + what + ", 1)", x.set(what, 1), NONE);
            }
        });
        StreamTree y = Due.told("chart 2 8;place 2 2 5;place 2 4 5;place 1 7 5");
        Due.is("LEAN", y.ink(2), 14 * 30 + 10 * 20 + 150);
        y.set(0, 20);
        Due.is("drawings follow BASE", y.ink(2), 14 * 50 + 10 * 30 + 250);
        y.set(1, 0);
        Due.is("drawings follow BEND", y.ink(2), 10 * 50 + 10 * 30 + 250);
        y.set(2, 1);
        Due.is("drawings follow REACH", y.ink(2), 20 * 50 + 250);
    }

    private static void at() {
        Due.sentence("promise 8", "Of a PLACE, what 0: RING, 1: TURN, 2: AMOUNT; "
            + "NoSuchElementException: others, none such");
        StreamTree none = new StreamTree();
        Due.stays(none, () -> {
            for (int place : new int[] {0, -1, 1, 6, 7, FAR, DEEP}) {
                Due.throwsNoSuch(none, place, 0);
            }
        });
        StreamTree x = Due.told("chart 9 24;place 9 23 99;place 1 0 1;place 2 0 2;place 3 0 3;place 4 0 4;place 5 0 5");
        Due.is("the last, RING", x.at(5, 0), 9);
        Due.is("the last, TURN", x.at(5, 1), 23);
        Due.is("the last, AMOUNT", x.at(5, 2), 99);
        Due.is("the first, RING", x.at(0, 0), 1);
        Due.is("the first, TURN", x.at(0, 1), 0);
        Due.is("the first, AMOUNT", x.at(0, 2), 1);
        Due.throwsNoSuch(x, 6, 0);
        x.place(6, 0, 6);
        Due.is("the seventh", x.at(6, 0), 9);
        for (int place : new int[] {-1, 7, FAR, DEEP}) {
            for (int what = 0; what <= 2; what++) {
                Due.throwsNoSuch(x, place, what);
            }
        }
        for (int what : new int[] {-1, 3, FAR, DEEP}) {
            Due.throwsNoSuch(x, 0, what);
            Due.throwsNoSuch(x, 6, what);
            Due.throwsNoSuch(x, 7, what);
        }
        x.place(9, 23, 0);
        Due.throwsNoSuch(x, 6, 0);
    }

    private static void ink() {
        Due.sentence("promise 9", "INK of a MANNER; -2: there is no TREE; NONE: others");
        StreamTree x = Due.told(CHART);
        Due.is("ink(0)", x.ink(0), 30 * 30 + 20 * 15 + 30 * 17);
        for (int manner = 1; manner <= 4; manner++) {
            Due.is("ink(" + manner + ")", x.ink(manner), 10 * 30 + 20 * 35 + 30 * 17);
        }
        StreamTree shut = Due.told(SHUT);
        for (int manner = 0; manner <= 4; manner++) {
            Due.is("ink(" + manner + ") of none", shut.ink(manner), NO_TREE);
        }

        Due.sentence("promise 9", "(Here and below NONE is looked at ahead of -2.)");
        for (int manner : new int[] {-1, 5, -2, FAR, DEEP}) {
            Due.is("ink(" + manner + ")", x.ink(manner), NONE);
            Due.is("ink(" + manner + ") of none", shut.ink(manner), NONE);
        }
    }

    private static void width() {
        Due.sentence("promise 10", "What comes to a CELL (or the SOURCE) in a MANNER (1 to 4), PLACE and STEPS together; "
            + "0: nothing; -2, NONE likewise");
        StreamTree x = Due.told(CHART);
        StreamTree shut = Due.told(SHUT);
        for (int manner = 1; manner <= 4; manner++) {
            Due.is("a place", x.width(manner, 3, 0), 20);
            Due.is("a place and a step", x.width(manner, 2, 0), 25);
            Due.is("a step", x.width(manner, 1, 0), 25);
            Due.is("the source", x.width(manner, 0, 0), 32);
            Due.is("nothing, the last cell", x.width(manner, 3, 7), 0);
            Due.is("nothing, a rock", x.width(manner, 1, 6), 0);
            Due.is("no tree", shut.width(manner, 2, 4), NO_TREE);
            Due.is("no tree, the source", shut.width(manner, 0, 0), NO_TREE);
            for (int[] c : NO_CELLS) {
                Due.is("width(" + manner + ", " + c[0] + ", " + c[1] + ")", x.width(manner, c[0], c[1]), NONE);
                Due.is("no tree, no cell", shut.width(manner, c[0], c[1]), NONE);
            }
        }
        for (int manner : new int[] {0, 5, -1, FAR, DEEP}) {
            Due.is("width(" + manner + ", 1, 0)", x.width(manner, 1, 0), NONE);
            Due.is("no tree, width(" + manner + ", 1, 0)", shut.width(manner, 1, 0), NONE);
        }
    }

    private static void step() {
        Due.sentence("promise 11", "Where its STEP goes: 0 straight (to the SOURCE, too), 1 left, 2 right");
        StreamTree ways = Due.told("chart 3 8;place 3 1 5;place 3 3 5;place 3 6 9;reach 2");
        for (int manner = 2; manner <= 3; manner++) {
            Due.is("right", ways.step(manner, 3, 1), 2);
            Due.is("left", ways.step(manner, 3, 3), 1);
            Due.is("straight", ways.step(manner, 3, 6), 0);
            Due.is("straight", ways.step(manner, 2, 2), 0);
            Due.is("to the source", ways.step(manner, 1, 2), 0);
            Due.is("to the source", ways.step(manner, 1, 6), 0);
        }

        Due.sentence("promise 11", "NONE: nothing comes to it, it is the SOURCE, others; -2 likewise");
        StreamTree x = Due.told(CHART);
        StreamTree shut = Due.told(SHUT);
        for (int manner = 1; manner <= 4; manner++) {
            Due.is("nothing comes", x.step(manner, 3, 7), NONE);
            Due.is("a rock", x.step(manner, 1, 6), NONE);
            Due.is("the source", x.step(manner, 0, 0), NONE);
            Due.is("no tree, something comes", shut.step(manner, 2, 4), NO_TREE);
            Due.is("no tree, nothing comes", shut.step(manner, 3, 7), NO_TREE);
            Due.is("no tree, the source", shut.step(manner, 0, 0), NO_TREE);
            for (int[] c : NO_CELLS) {
                Due.is("step(" + manner + ", " + c[0] + ", " + c[1] + ")", x.step(manner, c[0], c[1]), NONE);
                Due.is("no tree, no cell", shut.step(manner, c[0], c[1]), NONE);
            }
        }
        for (int manner : new int[] {0, 5, -1, FAR, DEEP}) {
            Due.is("step(" + manner + ", 3, 0)", x.step(manner, 3, 0), NONE);
            Due.is("no tree, step(" + manner + ", 3, 0)", shut.step(manner, 3, 0), NONE);
            Due.is("no tree, step(" + manner + ", 0, 0)", shut.step(manner, 0, 0), NONE);
        }
    }

    private static void join() {
        Due.sentence("promise 12", "The i-th JOIN (by RINGS, the outmost first, then by TURNS), what 0: RING, 1: TURN, "
            + "2: how many come; how many JOINS (i NONE)");
        StreamTree x = Due.told("chart 3 8;place 3 0 5;place 2 0 5;place 2 7 5;place 1 7 5;place 3 4 5;place 2 4 5"
            + ";place 1 4 5;reach 0;bend 40");
        int[][] due = {{2, 0, 2}, {2, 4, 2}, {1, 4, 2}, {1, 7, 2}, {0, 0, 3}};
        for (int manner = 1; manner <= 4; manner++) {
            for (int what = 0; what <= 2; what++) {
                Due.is("how many, what " + what, x.join(manner, NONE, what), due.length);
                for (int i = 0; i < due.length; i++) {
                    Due.is("join(" + manner + ", " + i + ", " + what + ")", x.join(manner, i, what), due[i][what]);
                }
            }
        }

        StreamTree three = Due.told("chart 9 24;place 9 0 5;place 8 0 5;place 9 23 5;place 9 1 5;rocks 8 22 2;rocks 8 1 2");
        for (int manner = 2; manner <= 4; manner++) {
            Due.is("four at the edge of the largest chart", three.join(manner, NONE, 0), 1);
            Due.is("RING", three.join(manner, 0, 0), 8);
            Due.is("TURN", three.join(manner, 0, 1), 0);
            Due.is("how many", three.join(manner, 0, 2), 4);
        }
        three.place(1, 12, 5);
        for (int manner = 2; manner <= 4; manner++) {
            Due.is("the next", three.join(manner, 1, 0), 0);
            Due.is("two there", three.join(manner, 1, 2), 2);
            Due.is("none behind it", three.join(manner, 2, 0), NONE);
        }

        Due.sentence("promise 12", "NONE: others, none such; -2 likewise");
        StreamTree shut = Due.told(SHUT);
        for (int manner = 1; manner <= 4; manner++) {
            for (int i : new int[] {due.length, due.length + 1, FAR}) {
                Due.is("none such", x.join(manner, i, 0), NONE);
                Due.is("no tree, none such", shut.join(manner, i, 0), NO_TREE);
            }
            Due.is("no tree, how many", shut.join(manner, NONE, 0), NO_TREE);
            for (int i : new int[] {-2, DEEP}) {
                Due.is("join(" + manner + ", " + i + ", 0)", x.join(manner, i, 0), NONE);
                Due.is("no tree, join(" + manner + ", " + i + ", 0)", shut.join(manner, i, 0), NONE);
            }
            for (int what : new int[] {-1, 3, FAR, DEEP}) {
                for (int i = NONE; i <= 0; i++) {
                    Due.is("another what", x.join(manner, i, what), NONE);
                    Due.is("no tree, another what", shut.join(manner, i, what), NONE);
                }
            }
        }
        for (int manner : new int[] {0, 5, -1, FAR, DEEP}) {
            Due.is("join(" + manner + ", 0, 0)", x.join(manner, 0, 0), NONE);
            Due.is("no tree, join(" + manner + ", -1, 0)", shut.join(manner, NONE, 0), NONE);
        }
    }

    private static void drawn() {
        Due.sentence("promise 13", "Of a MANNER (1 to 4), what 0: STEPS that bend, 1: couples that lie ACROSS, 2: STEPS, "
            + "3: the most CELLS of one RING to which something comes, 4: the greatest WIDTH of a STEP");
        StreamTree x = Due.told("chart 3 8;place 3 1 20;place 3 3 20;place 3 6 3;reach 2;bend 0");
        int[] lean = {2, 0, 7, 3, 40};
        int[] straight = {0, 0, 9, 3, 20};
        for (int what = 0; what <= 4; what++) {
            Due.is("drawn(1, " + what + ")", x.drawn(1, what), straight[what]);
            Due.is("drawn(2, " + what + ")", x.drawn(2, what), lean[what]);
            Due.is("drawn(3, " + what + ")", x.drawn(3, what), lean[what]);
        }
        StreamTree inner = Due.told("chart 3 8;place 3 0 9;place 1 0 1;place 1 2 99;place 1 4 1;reach 0;bend 40");
        for (int manner = 1; manner <= 4; manner++) {
            Due.is("the most of ring 1", inner.drawn(manner, 3), 3);
            Due.is("the greatest is no sum", inner.drawn(manner, 4), 99);
            Due.is("steps", inner.drawn(manner, 2), 5);
        }

        for (int turn : new int[] {0, 11, 23}) {
            StreamTree wide = new StreamTree();
            wide.chart(9, 24);
            wide.place(9, turn, 99);
            wide.place(1, 5, 1);
            for (int manner = 1; manner <= 4; manner++) {
                Due.is("the greatest at turn " + turn, wide.drawn(manner, 4), 99);
                Due.is("steps", wide.drawn(manner, 2), 10);
                Due.is("the most of a ring", wide.drawn(manner, 3), 2);
                Due.is("bends", wide.drawn(manner, 0), 0);
            }
        }

        Due.sentence("promise 13", "-2, NONE likewise");
        StreamTree shut = Due.told(SHUT);
        for (int manner = 1; manner <= 4; manner++) {
            for (int what = 0; what <= 4; what++) {
                Due.is("no tree", shut.drawn(manner, what), NO_TREE);
            }
            for (int what : new int[] {-1, 5, FAR, DEEP}) {
                Due.is("drawn(" + manner + ", " + what + ")", x.drawn(manner, what), NONE);
                Due.is("no tree, drawn(" + manner + ", " + what + ")", shut.drawn(manner, what), NONE);
            }
        }
        for (int manner : new int[] {0, 5, -1, FAR, DEEP}) {
            Due.is("drawn(" + manner + ", 0)", x.drawn(manner, 0), NONE);
            Due.is("no tree, drawn(" + manner + ", 0)", shut.drawn(manner, 0), NONE);
        }
    }

    private static void way() {
        Due.sentence("promise 14", "The TURN at which the way of a PLACE comes to a RING (its own one, too; SOURCE: 0)");
        StreamTree x = Due.told("chart 3 8;place 3 7 5;place 3 1 5;place 1 4 9");
        int[][] due = {{0, 0, 0, 1}, {0, 4}, {0, 0, 0, 7}};
        for (int manner = 2; manner <= 3; manner++) {
            for (int p = 0; p < due.length; p++) {
                for (int ring = 0; ring < due[p].length; ring++) {
                    Due.is("way(" + manner + ", " + p + ", " + ring + ")", x.way(manner, p, ring), due[p][ring]);
                }
            }
        }
        for (int manner = 1; manner <= 4; manner++) {
            Due.is("its own ring", x.way(manner, 1, 1), 4);
            Due.is("the source", x.way(manner, 1, 0), 0);
        }

        Due.sentence("promise 14", "-2, NONE likewise (a RING further out than it)");
        StreamTree shut = Due.told(SHUT);
        for (int manner = 1; manner <= 4; manner++) {
            Due.is("further out", x.way(manner, 1, 2), NONE);
            Due.is("further out", x.way(manner, 1, 3), NONE);
            Due.is("no tree", shut.way(manner, 1, 2), NO_TREE);
            Due.is("no tree, the source", shut.way(manner, 1, 0), NO_TREE);
            Due.is("no tree, further out", shut.way(manner, 1, 3), NO_TREE);
            for (int ring : new int[] {-1, 4, FAR, DEEP}) {
                Due.is("no ring", x.way(manner, 0, ring), NONE);
                Due.is("no tree, no ring", shut.way(manner, 0, ring), NONE);
            }
            for (int place : new int[] {-1, 3, 7, FAR, DEEP}) {
                Due.is("no place", x.way(manner, place, 0), NONE);
                Due.is("no tree, no place", shut.way(manner, place, 0), NONE);
            }
            Due.is("no tree, the first that is none", shut.way(manner, 2, 0), NONE);
        }
        for (int manner : new int[] {0, 5, -1, FAR, DEEP}) {
            Due.is("way(" + manner + ", 0, 0)", x.way(manner, 0, 0), NONE);
            Due.is("no tree, way(" + manner + ", 0, 0)", shut.way(manner, 0, 0), NONE);
        }
    }

    private static void borne() {
        Due.sentence("promise 15", "Of how many PLACES what goes by a STEP from a CELL is, as bits (1 to 4)");
        StreamTree x = Due.told(CHART);
        for (int manner = 1; manner <= 4; manner++) {
            Due.is("by turns, then by rings", x.borne(manner, 3, 0), 2);
            Due.is("both", x.borne(manner, 2, 0), 3);
            Due.is("both on", x.borne(manner, 1, 0), 3);
            Due.is("the third", x.borne(manner, 1, 4), 4);
            Due.is("of none", x.borne(manner, 3, 7), 0);
            Due.is("of none, a rock", x.borne(manner, 1, 6), 0);
        }
        StreamTree seven = Due.told("chart 9 24;place 9 23 1;place 8 23 1;place 7 23 1;place 6 23 1;place 5 23 1"
            + ";place 4 23 1;place 3 23 1");
        for (int manner = 1; manner <= 4; manner++) {
            Due.is("the seventh alone", seven.borne(manner, 9, 23), 64);
            Due.is("all seven", seven.borne(manner, 1, 23), 127);
        }

        Due.sentence("promise 15", "-2, NONE likewise (the SOURCE: none)");
        StreamTree shut = Due.told(SHUT);
        for (int manner = 1; manner <= 4; manner++) {
            Due.is("the source", x.borne(manner, 0, 0), NONE);
            Due.is("no tree, the source", shut.borne(manner, 0, 0), NONE);
            Due.is("no tree", shut.borne(manner, 2, 4), NO_TREE);
            Due.is("no tree, of none", shut.borne(manner, 3, 7), NO_TREE);
            for (int[] c : NO_CELLS) {
                Due.is("borne(" + manner + ", " + c[0] + ", " + c[1] + ")", x.borne(manner, c[0], c[1]), NONE);
                Due.is("no tree, no cell", shut.borne(manner, c[0], c[1]), NONE);
            }
        }
        for (int manner : new int[] {0, 5, -1, FAR, DEEP}) {
            Due.is("borne(" + manner + ", 3, 0)", x.borne(manner, 3, 0), NONE);
            Due.is("no tree, borne(" + manner + ", 3, 0)", shut.borne(manner, 3, 0), NONE);
        }
    }

    private static void alone() {
        Due.sentence("promise 16", "INK of a way of least INK of a PLACE alone; -2: it has none; NONE: no such PLACE");
        StreamTree x = Due.told("chart 3 8;place 3 0 20;place 1 7 99;place 3 4 7;rocks 2 0 1;rocks 1 1 1;rocks 1 0 1");
        // One bend to (2,7) or (2,1); from (2,1) all but a bend is shut, from (2,7) straight.
        Due.is("by one bend", x.alone(0), 34 * 30);
        Due.is("straight", x.alone(1), 30 * 17);
        Due.is("from ring 1", x.alone(2), 10 * 109);
        Due.stays(x, () -> {
            for (int place : new int[] {-1, 3, 6, 7, 32, FAR, DEEP}) {
                Due.is("alone(" + place + ")", x.alone(place), NONE);
            }
        });
        StreamTree shut = Due.told(SHUT);
        Due.is("it has none", shut.alone(0), NO_TREE);
        Due.is("the other one has", shut.alone(1), 20 * 15);
        Due.is("no such place, and no tree", shut.alone(2), NONE);
        Due.is("no such place, and no tree", shut.alone(-1), NONE);
        Due.is("without places", new StreamTree().alone(0), NONE);
    }

    private static void costs() {
        Due.sentence("promise 17", "By how much LEAST INK is less without a PLACE");
        StreamTree x = Due.told(CHART);
        Due.stays(x, () -> {
            Due.is("on another one's way", x.costs(0), 20 * 5);
            Due.is("with what it draws alone", x.costs(1), 10 * 30 + 20 * 35 - 20 * 15);
            Due.is("by itself", x.costs(2), 30 * 17);
        });
        StreamTree one = Due.told("chart 2 6;place 2 5 99;base 99");
        Due.is("the only one: all of it", one.costs(0), 20 * 198);

        Due.sentence("promise 17", "-2: there is no TREE with it or none without it; NONE: no such PLACE");
        StreamTree shut = Due.told(SHUT);
        Due.is("none with it", shut.costs(0), NO_TREE);
        Due.is("none with it, nor without it", shut.costs(1), NO_TREE);
        for (int place : new int[] {-1, 2, 3, 7, 32, FAR, DEEP}) {
            Due.is("costs(" + place + "), and no tree", shut.costs(place), NONE);
        }
        for (int place : new int[] {-1, 3, 7, 32, FAR, DEEP}) {
            Due.is("costs(" + place + ")", x.costs(place), NONE);
        }
        Due.is("without places", new StreamTree().costs(0), NONE);
    }

    private static void bars() {
        Due.sentence("promise 18", "By how much it is less, were a ROCK none");
        StreamTree x = Due.told("chart 3 8;place 3 0 20;rocks 2 0 1;rocks 3 7 1;rocks 1 0 1");
        Due.stays(x, () -> {
            Due.is("in the way, with another one further in", x.bars(2, 0), 0);
            Due.is("behind another one", x.bars(1, 0), 0);
            Due.is("the last cell", x.bars(3, 7), 0);
        });
        x.rock(1, 0, false);
        Due.is("in the way", x.bars(2, 0), 4 * 30);
        Due.is("asked again", x.bars(2, 0), 4 * 30);
        Due.is("it still is one", x.ink(4), 34 * 30);
        Due.is("the bests are with it", x.best(1, 0, 1), 2 * 14 * 30);
        Due.is("ALONE is with it", x.ink(0), 34 * 30);

        Due.sentence("promise 18", "-2: there is no TREE now; NONE: no ROCK is there");
        StreamTree shut = Due.told(SHUT);
        Due.is("none now, one without it", shut.bars(2, 0), NO_TREE);
        Due.is("no rock, and no tree", shut.bars(2, 2), NONE);
        Due.is("a place, and no tree", shut.bars(2, 4), NONE);
        Due.is("a place", x.bars(3, 0), NONE);
        Due.is("no rock", x.bars(2, 1), NONE);
        Due.is("the source", x.bars(0, 0), NONE);
        for (int[] c : NO_CELLS) {
            Due.is("bars(" + c[0] + ", " + c[1] + ")", x.bars(c[0], c[1]), NONE);
            Due.is("bars(" + c[0] + ", " + c[1] + "), and no tree", shut.bars(c[0], c[1]), NONE);
        }
    }

    private static void more() {
        Due.sentence("promise 19", "MORE (what 0), the RING (1), the TURN (2) where it comes to the TREE");
        StreamTree x = Due.told(CHART);
        Due.stays(x, () -> {
            Due.is("MORE", x.more(3, 4, 99, 0), 30 * 99);
            Due.is("RING", x.more(3, 4, 99, 1), 3);
            Due.is("TURN", x.more(3, 4, 99, 2), 4);
        });

        Due.sentence("promise 19", "-2: there is no TREE, or no way");
        StreamTree shut = Due.told(SHUT);
        StreamTree cut = Due.told("chart 3 8;place 2 4 5;rocks 2 7 3");
        for (int what = 0; what <= 2; what++) {
            Due.is("no tree", shut.more(1, 1, 1, what), NO_TREE);
            Due.is("no way", cut.more(3, 0, 1, what), NO_TREE);
        }
        Due.is("a way beside", cut.more(3, 1, 1, 0), 34 * 11);

        Due.sentence("promise 19", "NONE: others, a ROCK is there, the SOURCE");
        Due.stays(x, () -> {
            for (int[] c : NO_CELLS) {
                Due.is("more(" + c[0] + ", " + c[1] + ", 1, 0)", x.more(c[0], c[1], 1, 0), NONE);
                Due.is("no tree, no cell", shut.more(c[0], c[1], 1, 0), NONE);
            }
            for (int amount : new int[] {0, 100, -1, FAR, DEEP}) {
                Due.is("more of " + amount, x.more(1, 1, amount, 0), NONE);
                Due.is("no tree, more of " + amount, shut.more(1, 1, amount, 0), NONE);
                Due.is("no way, more of " + amount, cut.more(3, 0, amount, 0), NONE);
            }
            for (int what : new int[] {-1, 3, FAR, DEEP}) {
                Due.is("more of what " + what, x.more(1, 1, 1, what), NONE);
                Due.is("no tree, more of what " + what, shut.more(1, 1, 1, what), NONE);
                Due.is("no way, more of what " + what, cut.more(3, 0, 1, what), NONE);
            }
            Due.is("a rock", x.more(1, 6, 1, 0), NONE);
            Due.is("no tree, a rock", shut.more(2, 0, 1, 0), NONE);
            Due.is("the source", x.more(0, 0, 1, 0), NONE);
            Due.is("no tree, the source", shut.more(0, 0, 1, 0), NONE);
        });
    }

    private static void best() {
        Due.sentence("promise 20", "BEST of a CELL (or the SOURCE) and a set of PLACES (bits, not none)");
        StreamTree x = Due.told(CHART);
        Due.is("the source", x.best(0, 0, 7), 10 * 30 + 20 * 35 + 30 * 17);
        Due.is("a cell", x.best(2, 0, 3), 10 * 30);
        Due.is("another set of it", x.best(2, 0, 2), 10 * 30);
        Due.is("a place that is there", x.best(2, 0, 1), 0);
        Due.is("not none", x.best(0, 0, 0), NONE);
        for (int places = 0; places <= 7; places++) {
            StreamTree y = new StreamTree();
            for (int p = 0; p < places; p++) {
                y.place(1, p, 1);
            }
            int all = (1 << places) - 1;
            Due.is("none of " + places, y.best(0, 0, 0), NONE);
            if (places > 0) {
                Due.is("all of " + places, y.best(0, 0, all), places * 110);
                Due.is("the last of " + places, y.best(0, 0, 1 << (places - 1)), 110);
            }
            Due.is("one more than all of " + places, y.best(0, 0, all + 1), NONE);
            Due.is("one too many besides", y.best(0, 0, 2 * all + 1), NONE);
        }

        Due.sentence("promise 20", "-2: there is none; NONE: others, a ROCK");
        StreamTree shut = Due.told(SHUT);
        Due.is("none: too far off", x.best(3, 0, 4), NO_TREE);
        Due.is("none: further in", x.best(3, 0, 1), NO_TREE);
        Due.is("none: shut in", shut.best(0, 0, 1), NO_TREE);
        Due.is("none: one of both is shut in", shut.best(0, 0, 3), NO_TREE);
        Due.is("the other one has one", shut.best(0, 0, 2), 20 * 15);
        Due.is("a rock", x.best(1, 6, 1), NONE);
        Due.is("a rock, and there is none", shut.best(2, 0, 3), NONE);
        for (int set : new int[] {0, -1, 8, 16, 128, FAR, DEEP}) {
            Due.is("best(0, 0, " + set + ")", x.best(0, 0, set), NONE);
            Due.is("best(0, 0, " + set + "), and there is none", shut.best(0, 0, set), NONE);
        }
        for (int[] c : NO_CELLS) {
            Due.is("best(" + c[0] + ", " + c[1] + ", 1)", x.best(c[0], c[1], 1), NONE);
            Due.is("best(" + c[0] + ", " + c[1] + ", 1), and there is none", shut.best(c[0], c[1], 1), NONE);
        }
    }

    private static void count() {
        Due.sentence("promise 21", "What 0: RINGS, 1: TURNS, 2: PLACES, 3: ROCKS, 4: BASE, 5: BEND, 6: REACH, "
            + "7: all AMOUNTS, 8: bytes on THE TAPE");
        StreamTree x = Due.told("chart 9 24;base 99;bend 40;reach 6;rocks 1 0 24;rocks 2 0 24;place 9 0 99;place 9 1 99"
            + ";place 9 2 99;place 9 3 99;place 9 4 99;place 9 5 99;place 9 6 99");
        for (int k = 0; k < 25; k++) {
            x.feed(0, 0, 0, 0, 0);
        }
        int[] most = {9, 24, 7, 48, 99, 40, 6, 693, 500};
        for (int what = 0; what < most.length; what++) {
            Due.is("count(" + what + ")", x.count(what), most[what]);
        }
        StreamTree y = Due.told("chart 2 6;base 1;bend 0;reach 0");
        int[] least = {2, 6, 0, 0, 1, 0, 0, 0, 0, 0};
        for (int what = 0; what < least.length; what++) {
            Due.is("count(" + what + ")", y.count(what), least[what]);
        }

        Due.sentence("promise 21", "9: by how much INK of LEAST is less than of ALONE (-2: there is none)");
        Due.is("there is none", x.count(9), NO_TREE);
        Due.is("one of two is shut in", Due.told(SHUT).count(9), NO_TREE);
        Due.is("one alone", Due.told("chart 2 6;place 2 0 5").count(9), 0);
        Due.is("two apart", Due.told("chart 2 6;place 1 0 5;place 1 1 5").count(9), 0);
        Due.is("two in line", Due.told(CHART).count(9), 20 * 10);

        Due.sentence("promise 21", "NONE for another what");
        Due.stays(y, () -> {
            for (int what : new int[] {-1, 10, -2, 11, FAR, DEEP}) {
                Due.is("count(" + what + ")", y.count(what), NONE);
            }
        });
        Due.is("and there is none", x.count(10), NONE);
    }

    public static void main(String[] args) {
        newObject();
        chart();
        place();
        rock();
        set();
        at();
        ink();
        width();
        step();
        join();
        drawn();
        way();
        borne();
        alone();
        costs();
        bars();
        more();
        best();
        count();
        Due.end();
    }
}
