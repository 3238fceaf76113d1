/** The bounds of part 1 but for its TEXT: the chart, round it, its places, rocks, numbers, steps, joins. */
public final class ChartEdges {
    private static final int NONE = Due.NONE;
    private static final int FAR = Due.FAR;
    private static final int DEEP = Due.DEEP;

    private static void rings() {
        Due.sentence("part 1", "The CHART has RINGS 1 to R (2 to 9; 5 at first)");
        StreamTree x = new StreamTree();
        Due.is("at first", x.count(0), 5);
        Due.stays(x, () -> {
            for (int rings : new int[] {1, 10, 0, -1, -2, FAR, DEEP}) {
                Due.is("chart(" + rings + ", 6)", x.chart(rings, 6), false);
            }
        });
        for (int rings = 2; rings <= 9; rings++) {
            Due.is("chart(" + rings + ", 6)", x.chart(rings, 6), true);
            Due.is("rings", x.count(0), rings);
            Due.is("the outmost", x.place(rings, 0, 1), 1);
            Due.is("one further out", x.place(rings + 1, 0, 1), NONE);
            Due.is("the inmost", x.place(1, 1, 1), 2);
            Due.is("the source is of no ring", x.place(0, 0, 1), NONE);
        }
    }

    private static void turns() {
        Due.sentence("part 1", "TURNS 0 to N - 1 (6 to 24; 12 at first)");
        StreamTree x = new StreamTree();
        Due.is("at first", x.count(1), 12);
        Due.stays(x, () -> {
            for (int turns : new int[] {5, 25, 0, -1, -6, FAR, DEEP}) {
                Due.is("chart(2, " + turns + ")", x.chart(2, turns), false);
            }
        });
        for (int turns = 6; turns <= 24; turns++) {
            Due.is("chart(2, " + turns + ")", x.chart(2, turns), true);
            Due.is("turns", x.count(1), turns);
            Due.is("the first", x.place(1, 0, 1), 1);
            Due.is("one less", x.place(1, -1, 1), NONE);
            Due.is("the last", x.place(1, turns - 1, 1), 2);
            Due.is("one more", x.place(1, turns, 1), NONE);
        }
    }

    private static void round() {
        Due.sentence("part 1", "going round (behind N - 1 comes 0)");
        for (int n : new int[] {6, 7, 12, 23, 24}) {
            roundToTheRight(n, n - 1);
            roundToTheLeft(n, n - 1);
            roundForMore(n, n - 1);
            roundLeaning(n, n - 1);
        }
    }

    /** From the last turn the only way goes to turn 0. */
    private static void roundToTheRight(int n, int last) {
        StreamTree x = new StreamTree();
        x.chart(2, n);
        x.place(2, last, 5);
        x.rock(1, last, true);
        x.rock(1, last - 1, true);
        for (int manner = 2; manner <= 4; manner++) {
            Due.is("right of " + last, x.step(manner, 2, last), 2);
            Due.is("comes to turn 0", x.width(manner, 1, 0), 5);
            Due.is("borne by turn 0", x.borne(manner, 1, 0), 1);
            Due.is("its way", x.way(manner, 0, 1), 0);
            Due.is("its ink", x.ink(manner), 14 * 15 + 10 * 15);
        }
        Due.is("alone", x.alone(0), 24 * 15);
        Due.is("best of turn 0", x.best(1, 0, 1), 14 * 15);
        Due.is("turn 0 is no further right", x.best(1, 1, 1), Due.NO_TREE);
        x.place(1, 0, 3);
        for (int manner = 2; manner <= 4; manner++) {
            Due.is("joins", x.join(manner, NONE, 0), 1);
            Due.is("a join at turn 0", x.join(manner, 0, 1), 0);
            Due.is("the place and the step round", x.join(manner, 0, 2), 2);
        }
    }

    /** From turn 0 the only way goes to the last turn. */
    private static void roundToTheLeft(int n, int last) {
        StreamTree x = new StreamTree();
        x.chart(2, n);
        x.place(2, 0, 5);
        x.rock(1, 0, true);
        x.rock(1, 1, true);
        for (int manner = 2; manner <= 4; manner++) {
            Due.is("left of 0", x.step(manner, 2, 0), 1);
            Due.is("comes to the last turn", x.width(manner, 1, last), 5);
            Due.is("its way", x.way(manner, 0, 1), last);
            Due.is("its ink", x.ink(manner), 14 * 15 + 10 * 15);
        }
        Due.is("alone", x.alone(0), 24 * 15);
        Due.is("best of the last turn", x.best(1, last, 1), 14 * 15);
        Due.is("the last turn is no further left", x.best(1, last - 1, 1), Due.NO_TREE);
        x.place(1, last, 3);
        for (int manner = 2; manner <= 4; manner++) {
            Due.is("joins", x.join(manner, NONE, 0), 1);
            Due.is("a join at the last turn", x.join(manner, 0, 1), last);
            Due.is("the place and the step round", x.join(manner, 0, 2), 2);
        }
    }

    private static void roundForMore(int n, int last) {
        StreamTree x = new StreamTree();
        x.chart(2, n);
        x.place(1, 0, 5);
        Due.is("more, to the right round", x.more(2, last, 3, 0), 14 * 13 + 10 * 3);
        Due.is("RING", x.more(2, last, 3, 1), 1);
        Due.is("TURN", x.more(2, last, 3, 2), 0);
        x.chart(2, n);
        x.place(1, last, 5);
        Due.is("more, to the left round", x.more(2, 0, 3, 0), 14 * 13 + 10 * 3);
        Due.is("RING", x.more(2, 0, 3, 1), 1);
        Due.is("TURN", x.more(2, 0, 3, 2), last);
    }

    /** The nearest one is found over the edge, to the right and to the left. */
    private static void roundLeaning(int n, int last) {
        StreamTree x = new StreamTree();
        x.chart(2, n);
        x.set(2, 2);
        x.place(2, last, 5);
        x.place(2, 1, 5);
        Due.is("two away over the edge", x.step(2, 2, last), 2);
        Due.is("two away over the edge, back", x.step(2, 2, 1), 1);
        Due.is("they meet at turn 0", x.join(2, 0, 1), 0);
        Due.is("RING", x.join(2, 0, 0), 1);
        x.chart(2, n);
        x.place(2, last, 4);
        x.place(2, 0, 5);
        Due.is("one away, less", x.step(2, 2, last), 2);
        Due.is("one away, more", x.step(2, 2, 0), 0);
        x.place(2, last, 6);
        Due.is("one away, more", x.step(2, 2, last), 0);
        Due.is("one away, less", x.step(2, 2, 0), 1);
        x.place(2, last, 5);
        Due.is("one away, like, the other one to its right", x.step(2, 2, last), 2);
        Due.is("one away, like, the other one to its left", x.step(2, 2, 0), 0);
    }

    private static void source() {
        Due.sentence("part 1", "the SOURCE is RING 0, TURN 0");
        StreamTree x = Due.told("chart 3 8;place 3 0 20;place 2 7 5");
        Due.is("width of it", x.width(1, 0, 0), 25);
        Due.is("step of it", x.step(1, 0, 0), NONE);
        Due.is("best of it", x.best(0, 0, 1), 30 * 30);
        Due.stays(x, () -> {
            for (int turn : new int[] {1, -1, 7, 8, FAR, DEEP}) {
                Due.is("width(1, 0, " + turn + ")", x.width(1, 0, turn), NONE);
                Due.is("step(1, 0, " + turn + ")", x.step(1, 0, turn), NONE);
                Due.is("borne(1, 0, " + turn + ")", x.borne(1, 0, turn), NONE);
                Due.is("best(0, " + turn + ", 1)", x.best(0, turn, 1), NONE);
                Due.is("more(0, " + turn + ", 1, 0)", x.more(0, turn, 1, 0), NONE);
                Due.is("bars(0, " + turn + ")", x.bars(0, turn), NONE);
                Due.is("place(0, " + turn + ", 1)", x.place(0, turn, 1), NONE);
                Due.is("rock(0, " + turn + ", true)", x.rock(0, turn, true), false);
            }
        });
    }

    private static void places() {
        Due.sentence("part 1", "PLACES, 7 at most: each at a CELL (of a RING) of its own");
        StreamTree x = new StreamTree();
        x.chart(2, 6);
        Due.is("none at first", x.count(2), 0);
        for (int p = 1; p <= 7; p++) {
            Due.is("place " + p, x.place(1 + p % 2, p - 1 - p / 7, p), p);
        }
        Due.stays(x, () -> Due.is("an eighth", x.place(1, 0, 1), NONE));
        Due.is("a cell that has one keeps one", x.place(1, 1, 50), 7);
        Due.is("with another amount", x.count(7), 1 + 50 + 3 + 4 + 5 + 6 + 7);

        Due.sentence("part 1", "with an AMOUNT (1 to 99)");
        StreamTree y = new StreamTree();
        Due.stays(y, () -> {
            for (int amount : new int[] {-1, 0, 100, -99, FAR, DEEP}) {
                Due.is("place(1, 1, " + amount + ")", y.place(1, 1, amount), NONE);
            }
        });
        Due.is("the least", y.place(1, 1, 1), 1);
        Due.is("it is so", y.at(0, 2), 1);
        Due.is("the most", y.place(1, 1, 99), 1);
        Due.is("it is so", y.at(0, 2), 99);
        Due.stays(y, () -> {
            Due.is("100 for the one that is there", y.place(1, 1, 100), NONE);
            Due.is("-1 for the one that is there", y.place(1, 1, -1), NONE);
        });

        Due.sentence("part 1", "PLACES are numbered by their TURNS, of like ones by RINGS, from 0");
        StreamTree z = new StreamTree();
        int[][] told = {{3, 11}, {1, 0}, {5, 4}, {2, 4}, {5, 0}, {1, 11}, {4, 4}};
        for (int k = 0; k < told.length; k++) {
            z.place(told[k][0], told[k][1], k + 1);
        }
        int[][] due = {{1, 0, 2}, {5, 0, 5}, {2, 4, 4}, {4, 4, 7}, {5, 4, 3}, {1, 11, 6}, {3, 11, 1}};
        for (int p = 0; p < due.length; p++) {
            for (int what = 0; what < 3; what++) {
                Due.is("at(" + p + ", " + what + ")", z.at(p, what), due[p][what]);
            }
            Due.is("its bit", z.borne(1, due[p][0], due[p][1]) >> p & 1, 1);
        }
        Due.throwsNoSuch(z, 7, 0);
        Due.throwsNoSuch(z, -1, 0);
    }

    private static void rocks() {
        Due.sentence("part 1", "ROCKS: CELLS (of RINGS) that can't be passed; no PLACE lies on one");
        StreamTree x = Due.told("chart 2 6;place 2 2 5");
        Due.is("passed", x.way(1, 0, 1), 2);
        Due.is("the source can be none", x.rock(0, 0, true), false);
        x.rock(1, 2, true);
        Due.is("not passed", x.ink(1), Due.NO_TREE);
        for (int manner = 2; manner <= 4; manner++) {
            Due.is("not passed", x.width(manner, 1, 2), 0);
        }
        Due.stays(x, () -> {
            Due.is("a place on one", x.place(1, 2, 1), NONE);
            Due.is("none on one", x.place(1, 2, 0), NONE);
            Due.is("one on a place", x.rock(2, 2, true), false);
        });
        for (int turn = 0; turn < 6; turn++) {
            x.rock(1, turn, true);
        }
        Due.is("all of a ring", x.count(3), 6);
        for (int manner = 0; manner <= 4; manner++) {
            Due.is("no way", x.ink(manner), Due.NO_TREE);
        }
        Due.is("each cell can be one", everyCellOfTheLargest(), 9 * 24);
    }

    private static int everyCellOfTheLargest() {
        StreamTree x = new StreamTree();
        x.chart(9, 24);
        for (int ring = 1; ring <= 9; ring++) {
            for (int turn = 0; turn < 24; turn++) {
                Due.is("rock(" + ring + ", " + turn + ", true)", x.rock(ring, turn, true), true);
            }
        }
        Due.is("without places there is still a tree", x.ink(4), 0);
        return x.count(3);
    }

    private static void numbers() {
        Due.sentence("part 1", "BASE (1 to 99; 10 at first)");
        boundsOfSet(0, 1, 99, 10);
        Due.sentence("part 1", "BEND (0 to 40; 4 at first)");
        boundsOfSet(1, 0, 40, 4);
        Due.sentence("part 1", "REACH (0 to 6; 3 at first)");
        boundsOfSet(2, 0, 6, 3);
    }

    private static void boundsOfSet(int what, int low, int high, int first) {
        StreamTree x = new StreamTree();
        Due.is("at first", x.count(4 + what), first);
        Due.stays(x, () -> {
            for (int v : new int[] {low - 1, high + 1, -99, FAR, DEEP}) {
                Due.is("set(" + what + ", " + v + ")", x.set(what, v), NONE);
            }
        });
        int was = first;
        for (int v = low; v <= high; v++) {
            Due.is("set(" + what + ", " + v + ")", x.set(what, v), was);
            Due.is("it is so", x.count(4 + what), v);
            was = v;
        }
        String word = new String[] {"base ", "bend ", "reach "}[what];
        Due.is("by a text, the least", Due.told("chart 2 6;" + word + low).count(4 + what), low);
        Due.is("by a text, the most", Due.told("chart 2 6;" + word + high).count(4 + what), high);
        Due.textIs("chart 2 6;" + word + (high + 1), Due.fault(10 + word.length(), 2));
        if (low > 0) {
            Due.textIs("chart 2 6;" + word + (low - 1), Due.fault(10 + word.length(), 2));
        }
    }

    private static void steps() {
        Due.sentence("part 1", "from RING 1 to the SOURCE, without a bend");
        StreamTree x = Due.told("chart 2 6;place 1 5 5;place 1 3 5;bend 40");
        for (int manner = 0; manner <= 4; manner++) {
            Due.is("no bend is drawn", x.ink(manner), 2 * 10 * 15);
        }
        for (int manner = 1; manner <= 4; manner++) {
            Due.is("none counts", x.drawn(manner, 0), 0);
            Due.is("straight", x.step(manner, 1, 5), 0);
        }

        Due.sentence("part 1", "LENGTH: 10, with a bend 10 and BEND");
        for (int bend : new int[] {0, 1, 40}) {
            StreamTree y = Due.told("chart 2 6;place 2 0 5;rocks 1 0 1;bend " + bend);
            for (int manner : new int[] {0, 2, 3, 4}) {
                Due.is("ink with BEND " + bend, y.ink(manner), (10 + bend + 10) * 15);
            }
        }

        Due.sentence("part 1", "INK of a STEP: LENGTH * (BASE + WIDTH)");
        StreamTree least = Due.told("chart 2 6;place 1 0 1;base 1");
        StreamTree most = Due.told("chart 9 24;base 99;place 9 23 99;place 8 23 99;place 7 23 99;place 6 23 99"
            + ";place 5 23 99;place 4 23 99;place 3 23 99");
        for (int manner = 1; manner <= 4; manner++) {
            Due.is("the least", least.ink(manner), 10 * (1 + 1));
            Due.is("seven in line", most.ink(manner), 10 * (9 * 99 + 99 * (1 + 2 + 3 + 4 + 5 + 6 + 7 + 7 + 7)));
            Due.is("the greatest width", most.drawn(manner, 4), 7 * 99);
        }
        Due.is("each alone", most.ink(0), 10 * (99 + 99) * (9 + 8 + 7 + 6 + 5 + 4 + 3));

        Due.sentence("part 1", "its INK is that of all its STEPS, each once");
        StreamTree both = Due.told("chart 3 6;place 3 0 20;place 2 0 5");
        for (int manner = 1; manner <= 4; manner++) {
            Due.is("what goes together is drawn once", both.ink(manner), 10 * 30 + 2 * 10 * 35);
        }
    }

    private static void joins() {
        Due.sentence("part 1", "A JOIN: a CELL (or the SOURCE) to which two or more come");
        StreamTree one = Due.told("chart 3 8;place 3 2 5");
        for (int manner = 1; manner <= 4; manner++) {
            Due.is("one comes: no join", one.join(manner, NONE, 0), 0);
        }
        one.place(1, 6, 5);
        for (int manner = 1; manner <= 4; manner++) {
            Due.is("two come to the source", one.join(manner, NONE, 0), 1);
            Due.is("RING", one.join(manner, 0, 0), 0);
            Due.is("TURN", one.join(manner, 0, 1), 0);
            Due.is("how many", one.join(manner, 0, 2), 2);
        }

        Due.sentence("part 1", "(STEPS; a PLACE there counts as one)");
        StreamTree x = Due.told("chart 2 8;place 2 2 5;place 1 2 5");
        Due.is("a place and a step", x.join(4, 0, 2), 2);
        StreamTree y = Due.told("chart 2 8;place 2 1 5;place 2 2 5;place 2 3 5;place 1 2 5;rocks 1 0 2;rocks 1 3 2");
        Due.is("a place and all three steps", y.join(4, 0, 2), 4);
        Due.is("the source has but one", y.join(4, NONE, 0), 1);
        y.place(1, 2, 0);
        Due.is("three steps", y.join(4, 0, 2), 3);
        StreamTree past = Due.told("chart 2 8;place 2 2 5;place 2 4 5;place 1 1 9;place 1 2 9;place 1 4 9;place 1 5 9");
        for (int manner = 2; manner <= 3; manner++) {
            Due.is("what bends away does not come: they join between", past.join(manner, 0, 1), 3);
            Due.is("and at the source", past.join(manner, 1, 0), 0);
            Due.is("five come there", past.join(manner, 1, 2), 5);
            Due.is("and nowhere else", past.join(manner, NONE, 0), 2);
        }
        StreamTree all = Due.told("chart 2 8;place 1 0 5;place 1 1 5;place 1 2 5;place 1 3 5;place 1 4 5;place 1 6 5"
            + ";place 1 7 5");
        Due.is("seven steps to the source", all.join(4, 0, 2), 7);

        Due.sentence("part 1", "ACROSS: two STEPS from CELLS side by side of a RING, the left one's to the right, "
            + "the right one's to the left");
        StreamTree apart = Due.told("chart 2 8;place 2 2 5;place 2 3 5;rocks 1 2 2");
        Due.is("the left one's to the left", apart.step(4, 2, 2), 1);
        Due.is("the right one's to the right", apart.step(4, 2, 3), 2);
        Due.is("that is not across", apart.drawn(4, 1), 0);
        StreamTree meet = Due.told("chart 2 8;place 2 2 5;place 2 4 5");
        Due.is("to the right", meet.step(2, 2, 2), 2);
        Due.is("to the left", meet.step(2, 2, 4), 1);
        Due.is("not side by side", meet.drawn(2, 1), 0);
        StreamTree same = Due.told("chart 2 8;place 2 2 5;place 2 3 5;rocks 1 2 1;rocks 1 1 1");
        Due.is("to the right", same.step(4, 2, 2), 2);
        Due.is("straight", same.step(4, 2, 3), 0);
        Due.is("not to the left", same.drawn(4, 1), 0);
        StreamTree toLeft = Due.told("chart 2 8;place 2 2 5;place 2 3 4");
        Due.is("straight", toLeft.step(2, 2, 2), 0);
        Due.is("to the left", toLeft.step(2, 2, 3), 1);
        Due.is("not to the right", toLeft.drawn(2, 1), 0);
        StreamTree right = Due.told("chart 2 8;place 2 2 5;place 2 3 5;place 2 4 5;place 2 5 9");
        for (int manner = 2; manner <= 3; manner++) {
            Due.is("to the right", right.step(manner, 2, 2), 2);
            Due.is("to the right", right.step(manner, 2, 3), 2);
            Due.is("both to the right", right.drawn(manner, 1), 0);
        }
        // Straight on from ring 4 is a long way round, so the one of much bends to a way of its own.
        StreamTree left = Due.told("chart 5 12;base 1;bend 40;place 5 2 99;place 5 3 1;rocks 4 3 2;rocks 3 1 2;rocks 2 2 2"
            + ";rocks 1 3 2");
        Due.is("to the left", left.step(4, 5, 2), 1);
        Due.is("to the left", left.step(4, 5, 3), 1);
        Due.is("both to the left", left.drawn(4, 1), 0);
        acrossOfLikeOnes();
    }

    /** Without BEND trees of like ink can lie across; bits that rise from the least place on tell which one it is. */
    private static void acrossOfLikeOnes() {
        String four = "chart 2 6;place 2 0 1;place 1 1 1;place 2 1 1;place 2 5 1;bend ";
        // The first least part is (2,0) with (1,1); (2,1) and (2,5) are the other one, by (1,0).
        StreamTree x = Due.told(four + 0);
        Due.is("its ink", x.ink(4), 5 * 10 * 10 + 10 * (2 + 1 + 2 + 2));
        Due.is("the left one's to the right", x.step(4, 2, 0), 2);
        Due.is("the right one's to the left", x.step(4, 2, 1), 1);
        Due.is("one couple", x.drawn(4, 1), 1);
        for (int manner = 1; manner <= 3; manner++) {
            Due.is("none in MANNER " + manner, x.drawn(manner, 1), 0);
        }
        StreamTree bend = Due.told(four + 1);
        Due.is("a bend costs: with (1,1) and (2,1)", bend.step(4, 2, 0), 2);
        Due.is("a bend costs: straight", bend.step(4, 2, 1), 0);
        Due.is("a bend costs: none", bend.drawn(4, 1), 0);
        // (2,4) can only go to (1,5), (5,4) only round to (1,0): bits 1 and 2, so (2,0) goes with (2,4).
        StreamTree round = Due.told("chart 5 6;bend 0;place 2 0 1;place 2 4 1;place 5 4 1;place 2 5 1;rocks 1 1 4"
            + ";rocks 2 2 2;rocks 3 3 2;rocks 4 4 2");
        Due.is("its ink", round.ink(4), 9 * 10 * 10 + 10 * (2 + 2 + 5 + 2));
        Due.is("the last turn's to the right", round.step(4, 2, 5), 2);
        Due.is("turn 0's to the left", round.step(4, 2, 0), 1);
        Due.is("one couple, round", round.drawn(4, 1), 1);
        StreamTree two = Due.told("chart 5 6;bend 0;place 1 2 1;place 2 2 1;place 2 3 1;place 2 4 1;place 3 3 1;place 5 0 1"
            + ";place 5 4 1");
        int[][] couples = {{3, 3}, {2, 2}};
        for (int[] c : couples) {
            Due.is("to the right", two.step(4, c[0], c[1]), 2);
            Due.is("to the left", two.step(4, c[0], c[1] + 1), 1);
        }
        Due.is("two couples", two.drawn(4, 1), 2);
    }

    public static void main(String[] args) {
        rings();
        turns();
        round();
        source();
        places();
        rocks();
        numbers();
        steps();
        joins();
        Due.end();
    }
}
