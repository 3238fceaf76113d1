/** What the document says of the whole: 512 calls, the first lines of its terms, what a step, a tree, BEST, MORE are. */
public final class WholeEdges {
    private static final int NONE = Due.NONE;
    private static final int NO_TREE = Due.NO_TREE;
    /** All five manners have an ink of their own there, each reckoned by hand but LEAST. */
    private static final String FIVE = "chart 4 6;place 4 1 5;place 3 2 1;place 2 4 3;place 4 4 1";
    /** Charts on which branches bend, meet, go round rocks, go round behind the last turn, lie across. */
    private static final String[] CHARTS = {FIVE, "chart 2 6", "chart 2 6;place 1 5 99",
        "chart 3 8;place 3 0 20;place 3 2 20;rocks 2 1 1;bend 0;base 5",
        "chart 7 8;place 6 1 3;place 1 0 3;place 3 2 2;place 5 4 8;place 6 6 7;rocks 4 0 1;rocks 4 7 1;rocks 3 5 1",
        "chart 5 9;place 3 0 6;place 4 2 3;place 5 5 8;rocks 4 1 1;rocks 2 3 2;rocks 1 1 1",
        "chart 5 6;bend 0;place 1 2 1;place 2 2 1;place 2 3 1;place 2 4 1;place 3 3 1;place 5 0 1;place 5 4 1",
        "chart 4 7;base 99;bend 40;reach 6;place 4 0 1;place 4 6 99;place 3 5 50;place 4 3 7;rocks 3 6 2"};

    /** Sixteen calls that leave all as it is for the next sixteen; their answers are reckoned by hand. */
    private static void sixteenCalls(StreamTree x, String when) {
        Due.is("chart" + when, x.chart(3, 8), true);
        Due.is("place" + when, x.place(3, 0, 20), 1);
        Due.is("place" + when, x.place(3, 2, 20), 2);
        Due.is("rock" + when, x.rock(2, 1, true), true);
        Due.is("set" + when, x.set(1, 0), 4);
        Due.is("ink(2)" + when, x.ink(2), 600 + 600 + 500);
        Due.is("ink(4)" + when, x.ink(4), 600 + 600 + 500);
        Due.is("join" + when, x.join(2, 0, 1), 1);
        Due.is("bars" + when, x.bars(2, 1), 100);
        Due.is("more" + when, x.more(3, 5, 10, 0), 30 * 20);
        Due.is("best" + when, x.best(0, 0, 3), 600 + 600 + 500);
        // "chart 2 6;place1 1 5"
        Due.is("feed" + when, x.feed(0x63686172, 0x74203220, 0x363b706c, 0x61636531, 0x20312035), 20);
        Due.is("text" + when, x.text(20), 1);
        Due.is("count" + when, x.count(2), 1);
        Due.is("alone" + when, x.alone(0), 10 * 15);
        Due.is("drawn" + when, x.drawn(1, 2), 1);
    }

    private static void calls() {
        Due.sentence("What it is", "An object is used for at most 512 calls after it has been made");
        StreamTree x = new StreamTree();
        for (int k = 1; k <= 512; k += 16) {
            sixteenCalls(x, ", calls " + k + " to " + (k + 15));
        }
        StreamTree full = new StreamTree();
        for (int k = 1; k < 512; k++) {
            Due.is("call " + k, full.count(0), 5);
        }
        Due.throwsNoSuch(full, 0, 0);
    }

    /** All that can be asked, in at most 512 calls for a chart of 30 cells. */
    private static String answersOf(StreamTree x, int manner) {
        StringBuilder sb = new StringBuilder();
        for (int what = 0; what <= 9; what++) {
            sb.append(x.count(what)).append(' ');
        }
        int places = x.count(2);
        for (int p = 0; p < places; p++) {
            sb.append(x.at(p, 0)).append(' ').append(x.at(p, 1)).append(' ').append(x.at(p, 2)).append(' ')
                .append(x.alone(p)).append(' ').append(x.costs(p)).append(' ').append(x.way(manner, p, 1)).append(' ');
        }
        for (int i = NONE; i < places; i++) {
            sb.append(x.join(manner, i, 0)).append(' ').append(x.join(manner, i, 2)).append(' ');
        }
        for (int what = 0; what <= 4; what++) {
            sb.append(x.drawn(manner, what)).append(' ').append(x.ink(what)).append(' ');
        }
        for (int ring = 0; ring <= x.count(0); ring++) {
            for (int turn = 0; turn < (ring == 0 ? 1 : x.count(1)); turn++) {
                sb.append(x.width(manner, ring, turn)).append(' ').append(x.step(manner, ring, turn)).append(' ')
                    .append(x.borne(manner, ring, turn)).append(' ').append(x.bars(ring, turn)).append(' ')
                    .append(x.more(ring, turn, 9, 0)).append(' ').append(x.best(ring, turn, 1)).append(' ');
            }
        }
        return sb.toString();
    }

    private static StreamTree oneByOne() {
        StreamTree x = new StreamTree();
        x.place(5, 11, 3);
        x.chart(4, 7);
        x.place(4, 3, 8);
        x.place(4, 6, 99);
        x.rock(3, 0, true);
        x.rock(1, 1, true);
        x.set(2, 6);
        x.place(3, 5, 50);
        x.set(0, 99);
        x.place(4, 3, 7);
        x.rock(1, 1, false);
        x.place(2, 2, 1);
        x.rock(3, 6, true);
        x.set(1, 40);
        x.place(2, 2, 0);
        x.place(4, 0, 1);
        return x;
    }

    private static void terms() {
        Due.sentence("Terms", "An object is one round chart of rings and turns with the source in its midst, places to "
            + "which so much goes, rocks that can't be passed, told by a text or one by one.");
        for (int manner = 1; manner <= 4; manner++) {
            String byText = answersOf(Due.told(CHARTS[7]), manner);
            String one = answersOf(oneByOne(), manner);
            Due.is("by a text " + byText + "\n and one by one " + one + ": alike", byText.equals(one), true);
            Due.is("another chart is not alike", byText.equals(answersOf(Due.told(FIVE), manner)), false);
        }

        Due.sentence("Terms", "The stream is drawn in five manners: each way alone; straight; leaning, ring by ring, to "
            + "what is near; that one straightened; with the least ink of all trees that there are.");
        StreamTree five = Due.told(FIVE);
        Due.is("alone", five.ink(0), 600 + 330 + 260 + 440);
        Due.is("straight", five.ink(1), 600 + 330 + 220 + 280);
        Due.is("leaning", five.ink(2), 210 + 154 + 224 + 154 + 160 + 182 + 154 + 190 + 110);
        Due.is("straightened", five.ink(3), 1538 - 2 * 4 * 11);
        Due.is("least", five.ink(4), 1190);
        Due.is("there is no sixth", five.ink(5), NONE);

        Due.sentence("Terms", "Widths by sums, where branches join, bends, what lies across, each place's way; where one "
            + "more would join for the least ink; what a place, a rock costs.");
        StreamTree x = Due.told("chart 2 6;place 2 0 1;place 1 1 1;place 2 1 1;place 2 5 1;bend 0;rocks 1 3 1");
        Due.is("a width", x.width(4, 1, 0), 2);
        Due.is("joins", x.join(4, NONE, 0), 3);
        Due.is("bends", x.drawn(4, 0), 3);
        Due.is("across", x.drawn(4, 1), 1);
        Due.is("a way", x.way(4, 2, 1), 0);
        Due.is("where one more would join", x.more(2, 2, 5, 1), 1);
        Due.is("where one more would join", x.more(2, 2, 5, 2), 1);
        Due.is("what a place costs", x.costs(3), 10 * 11 + 10 * 11);
        Due.is("what a rock costs", x.bars(1, 3), 0);
    }

    private static void cells() {
        Due.sentence("part 1", "CELL: a RING and a TURN");
        for (int ring = 1; ring <= 9; ring++) {
            StreamTree x = new StreamTree();
            x.chart(9, 24);
            for (int turn = 0; turn < 24; turn++) {
                Due.is("a place", x.place(ring, turn, 7), 1);
                Due.is("its RING", x.at(0, 0), ring);
                Due.is("its TURN", x.at(0, 1), turn);
                Due.is("it is there", x.width(1, ring, turn), 7);
                Due.is("no other one of the ring", x.width(1, ring, (turn + 1) % 24), 0);
                Due.is("none further out", x.width(1, ring + 1, turn), ring == 9 ? NONE : 0);
                Due.is("none there", x.place(ring, turn, 0), 0);
            }
        }

        Due.sentence("part 1", "A STEP goes from a CELL one RING inwards: to the same TURN, to one less (left), "
            + "to one more (right), round");
        for (int n : new int[] {6, 7, 24}) {
            for (int turn = 0; turn < n; turn++) {
                for (int by = -2; by <= 2; by++) {
                    oneOpening(n, turn, by);
                }
            }
        }
    }

    /** Ring 1 is all rock but for one cell. */
    private static void oneOpening(int n, int turn, int by) {
        int open = Math.floorMod(turn + by, n);
        StreamTree x = new StreamTree();
        x.chart(2, n);
        x.place(2, turn, 5);
        for (int t = 0; t < n; t++) {
            x.rock(1, t, t != open);
        }
        boolean comes = by >= -1 && by <= 1;
        int side = by == 0 ? 0 : by < 0 ? 1 : 2;
        String at = " from " + turn + " to " + open + " of " + n;
        for (int manner = 2; manner <= 4; manner++) {
            Due.is("step" + at, x.step(manner, 2, turn), comes ? side : NO_TREE);
            Due.is("way" + at, x.way(manner, 0, 1), comes ? open : NO_TREE);
        }
        Due.is("STRAIGHT" + at, x.step(1, 2, turn), by == 0 ? 0 : NO_TREE);
        Due.is("best" + at, x.best(1, open, 1), comes ? (by == 0 ? 10 : 14) * 15 : NO_TREE);
        Due.is("more" + at, x.more(2, turn, 1, 0), comes ? (by == 0 ? 20 : 24) : NO_TREE);
    }

    private static int amountOf(StreamTree x, int bits) {
        int sum = 0;
        for (int p = 0; p < x.count(2); p++) {
            sum += (bits >> p & 1) != 0 ? x.at(p, 2) : 0;
        }
        return sum;
    }

    private static int placeAt(StreamTree x, int ring, int turn) {
        for (int p = 0; p < x.count(2); p++) {
            if (x.at(p, 0) == ring && x.at(p, 1) == turn) {
                return p;
            }
        }
        return NONE;
    }

    private static void trees() {
        Due.sentence("part 1", "Its WIDTH: the AMOUNTS that go by it, together");
        for (String text : CHARTS) {
            for (int manner = 1; manner <= 4; manner++) {
                StreamTree x = Due.told(text);
                int rings = x.ink(manner) == NO_TREE ? 0 : x.count(0);
                int turns = x.count(1);
                for (int ring = 1; ring <= rings; ring++) {
                    for (int turn = 0; turn < turns; turn++) {
                        int due = amountOf(Due.told(text), x.borne(manner, ring, turn));
                        Due.is("width of " + ring + ", " + turn + " in '" + text + "'", x.width(manner, ring, turn), due);
                    }
                }
            }
        }
        StreamTree line = Due.told("chart 4 6;place 4 0 1;place 3 0 20;place 2 0 50");
        int[] sums = {71, 71, 71, 21, 1};
        for (int ring = 0; ring <= 4; ring++) {
            Due.is("together, RING " + ring, line.width(4, ring, 0), sums[ring]);
        }

        Due.sentence("part 1", "A TREE tells of each CELL to which something comes (a PLACE, or what comes by STEPS) "
            + "one STEP on, to no ROCK, till the SOURCE");
        for (String text : CHARTS) {
            for (int manner = 1; manner <= 4; manner++) {
                if (Due.told(text).ink(manner) != NO_TREE) {
                    stepByStep(text, manner);
                }
            }
        }
    }

    /** From the outmost ring on: what comes to each cell, and by which step it goes. */
    private static void stepByStep(String text, int manner) {
        StreamTree x = Due.told(text);
        int rings = x.count(0);
        int turns = x.count(1);
        int[] comes = new int[turns];
        for (int ring = rings; ring >= 1; ring--) {
            int[] next = new int[turns];
            StreamTree places = Due.told(text);
            for (int turn = 0; turn < turns; turn++) {
                int p = placeAt(Due.told(text), ring, turn);
                comes[turn] |= p == NONE ? 0 : 1 << p;
                String at = " of " + ring + ", " + turn + " in MANNER " + manner + " of '" + text + "'";
                Due.is("borne" + at, x.borne(manner, ring, turn), comes[turn]);
                int side = x.step(manner, ring, turn);
                Due.is("something comes, so it goes on" + at, side != NONE, comes[turn] != 0);
                if (side != NONE) {
                    int to = Math.floorMod(turn + (side == 1 ? -1 : side == 2 ? 1 : 0), turns);
                    next[ring == 1 ? 0 : to] |= comes[turn];
                    Due.is("to no rock" + at, ring == 1 ? NONE : places.bars(ring - 1, to), NONE);
                }
            }
            comes = next;
        }
        Due.is("all come to the source", comes[0], (1 << x.count(2)) - 1);
        Due.is("all come to the source", x.width(manner, 0, 0), x.count(7));
    }

    private static void alone() {
        Due.sentence("part 2", ": each PLACE by a way of least INK for it alone; INK of all these together");
        // The two could share all but one step; each by itself: (3,0) must bend twice, (3,1) not at all.
        StreamTree x = Due.told("chart 3 8;place 3 0 20;place 3 1 5;rocks 2 0 1;rocks 2 7 1;rocks 1 2 1;rocks 1 0 1");
        Due.is("the first", x.alone(0), (14 + 10 + 10) * 30);
        Due.is("the other", x.alone(1), 30 * 15);
        Due.is("together", x.ink(0), 34 * 30 + 30 * 15);
        Due.is("that is more than LEAST", x.count(9), 2 * 10 * 10);
        for (String text : CHARTS) {
            StreamTree y = Due.told(text);
            int sum = 0;
            for (int p = 0; p < y.count(2); p++) {
                StreamTree only = Due.told(text);
                for (int q = y.count(2) - 1; q >= 0; q--) {
                    if (q != p) {
                        only.place(y.at(q, 0), y.at(q, 1), 0);
                    }
                }
                Due.is("alone(" + p + ") in '" + text + "'", y.alone(p), only.ink(4));
                sum += only.ink(4);
            }
            Due.is("ink(0) of '" + text + "'", y.ink(0), sum);
        }
    }

    private static void leaning() {
        Due.sentence("part 2", "the CELLS of a RING to which something comes are its BRANCHES");
        StreamTree x = Due.told("chart 3 12;place 3 2 5;place 2 4 7");
        Due.is("ring 3 has but one", x.step(2, 3, 2), 0);
        Due.is("in ring 2 what comes by a step is one", x.step(2, 2, 2), 2);
        Due.is("and a place is one", x.step(2, 2, 4), 1);
        x.place(3, 6, 5);
        Due.is("4 away", x.step(2, 3, 2), 0);
        Due.is("a rock is none", Due.told("chart 2 12;place 2 2 5;rocks 2 4 1").step(2, 2, 2), 0);
        Due.is("a place further in is none", Due.told("chart 2 12;place 2 2 5;place 1 3 5").step(2, 2, 2), 0);

        Due.sentence("part 2", "again and again till nothing changes in one going through all");
        // From (6,1) left, right, left, right; the other one right and left.
        StreamTree twice = Due.told(CHARTS[4]);
        int[] at = {1, 0, 1, 0};
        for (int k = 0; k < 4; k++) {
            Due.is("LEAN from RING " + (6 - k), twice.step(2, 6 - k, at[k]), k % 2 == 0 ? 1 : 2);
            Due.is("straightened", twice.step(3, 6 - k, 1), 0);
            Due.is("nothing beside", twice.width(3, 6 - k, 0), 0);
        }
        Due.is("eight bends less", twice.drawn(2, 0) - twice.drawn(3, 0), 8);
        for (String text : CHARTS) {
            StreamTree y = Due.told(text);
            if (y.ink(3) != NO_TREE) {
                Due.is("nothing is left to straighten in '" + text + "'", detours(text), 0);
            }
        }

        Due.sentence("part 2", "both go by that one, straight");
        StreamTree both = Due.told(FIVE);
        Due.is("LEAN", both.step(2, 3, 5), 2);
        Due.is("LEAN", both.step(2, 2, 0), 1);
        Due.is("the one", both.step(3, 3, 5), 0);
        Due.is("the other one", both.step(3, 2, 5), 0);
        Due.is("by that one", both.width(3, 2, 5), 1);
        Due.is("by the other one no more", both.width(3, 2, 0), 0);
        Due.is("and on as before", both.way(3, 3, 1), 5);
    }

    private static int detours(String text) {
        StreamTree x = Due.told(text);
        int turns = x.count(1);
        int sum = 0;
        for (int ring = 3; ring <= x.count(0); ring++) {
            for (int turn = 0; turn < turns; turn++) {
                StreamTree y = Due.told(text);
                int side = y.step(3, ring, turn);
                int beside = Math.floorMod(turn + (side == 1 ? -1 : 1), turns);
                boolean back = (side == 1 || side == 2) && y.step(3, ring - 1, beside) == 3 - side;
                boolean onlyThat = y.borne(3, ring - 1, beside) == y.borne(3, ring, turn);
                boolean free = y.bars(ring - 1, turn) == NONE && y.width(3, ring - 1, turn) == 0;
                sum += back && onlyThat && free ? 1 : 0;
            }
        }
        return sum;
    }

    private static void least() {
        Due.sentence("part 2", "4 LEAST: of all TREES that of least INK; of like ones that which is found so: "
            + "BEST of a CELL (or the SOURCE) and a set of PLACES (as bits by numbers)");
        for (String text : CHARTS) {
            StreamTree x = Due.told(text);
            for (int manner = 1; manner <= 3; manner++) {
                int ink = x.ink(manner);
                Due.is("no less ink in MANNER " + manner + " of '" + text + "'", ink == NO_TREE || ink >= x.ink(4), true);
            }
            for (int p = 0; p < x.count(2); p++) {
                Due.is("bit " + p + " is that place", x.best(x.at(p, 0), x.at(p, 1), 1 << p), 0);
                Due.is("bit " + p + " alone", x.best(0, 0, 1 << p), x.alone(p));
            }
        }

        Due.sentence("part 2", "BEST of the set at that one and the INK of that STEP with all its AMOUNTS");
        for (String text : new String[] {FIVE, CHARTS[3], CHARTS[7]}) {
            bestByBests(text);
        }

        Due.sentence("part 2", "The TREE is what is told so from the SOURCE and all PLACES on");
        for (String text : CHARTS) {
            StreamTree x = Due.told(text);
            int all = (1 << x.count(2)) - 1;
            Due.is("ink(4) of '" + text + "'", x.ink(4), all == 0 ? 0 : x.best(0, 0, all));
        }
        StreamTree five = Due.told(FIVE);
        Due.is("all bits", five.best(0, 0, 15), 1190);
        Due.is("one bit more", five.best(0, 0, 16), NONE);
    }

    /** Each BEST is the least of those of its parts at the cell and of those a step outwards. */
    private static void bestByBests(String text) {
        StreamTree x = Due.told(text);
        int rings = x.count(0);
        int turns = x.count(1);
        int sets = 1 << x.count(2);
        int[] amounts = new int[sets];
        for (int set = 1; set < sets; set++) {
            amounts[set] = amountOf(Due.told(text), set);
        }
        int[][] outside = new int[turns][sets];
        for (int ring = rings + 1; ring >= 0; ring--) {
            int[][] inks = new int[ring == 0 ? 1 : turns][sets];
            for (int turn = 0; turn < inks.length; turn++) {
                StreamTree asked = Due.told(text);
                for (int set = 1; set < sets; set++) {
                    inks[turn][set] = ring > rings ? NO_TREE : asked.best(ring, turn, set);
                }
            }
            for (int turn = 0; turn < inks.length && ring <= rings; turn++) {
                dueOfParts(text, new int[] {ring, turn}, inks[turn], outside, amounts);
            }
            outside = inks;
        }
    }

    private static void dueOfParts(String text, int[] cell, int[] inks, int[][] outside, int[] amounts) {
        StreamTree x = Due.told(text);
        boolean isRock = x.bars(cell[0], cell[1]) != NONE;
        int here = placeAt(x, cell[0], cell[1]);
        for (int set = 1; set < inks.length; set++) {
            int due = NO_TREE;
            for (int part = set & set - 1; part > 0; part = part - 1 & set) {
                due = lesser(due, inks[part], inks[set ^ part]);
            }
            for (int from = 0; from < outside.length; from++) {
                int by = Math.floorMod(from - cell[1], outside.length);
                boolean bends = cell[0] != 0 && by != 0;
                boolean near = cell[0] == 0 || by <= 1 || by == outside.length - 1;
                int length = bends ? 10 + x.count(5) : 10;
                due = near ? lesser(due, outside[from][set], length * (x.count(4) + amounts[set])) : due;
            }
            due = isRock ? NONE : here != NONE && set == 1 << here ? 0 : due;
            Due.is("best(" + cell[0] + ", " + cell[1] + ", " + set + ") of '" + text + "'", inks[set], due);
        }
    }

    /** The lesser of one ink and the sum of two, where each can be none. */
    private static int lesser(int ink, int a, int b) {
        if (a < 0 || b < 0) {
            return ink;
        }
        return ink < 0 ? a + b : Math.min(ink, a + b);
    }

    private static void more() {
        Due.sentence("part 3", "MORE of a CELL and an AMOUNT: what INK the LEAST TREE would have more");
        StreamTree x = Due.told("chart 3 8;place 3 0 20");
        for (int amount : new int[] {1, 50, 99}) {
            StreamTree y = Due.told("chart 3 8;place 3 0 20");
            int before = y.ink(4);
            y.place(2, 0, amount);
            Due.is("in its way, as the tree with it", x.more(2, 0, amount, 0), y.ink(4) - before);
            y.place(2, 0, 0);
            y.place(2, 4, amount);
            Due.is("far off, as the tree with it", x.more(2, 4, amount, 0), y.ink(4) - before);
            y.place(2, 4, 0);
            y.place(3, 0, 20 + amount > 99 ? 99 : 20 + amount);
            Due.is("at the place", x.more(3, 0, amount, 0), 30 * amount);
        }
        // The tree stays as it is: with (3,2) in it another tree would have less ink than this one and its MORE.
        StreamTree stays = Due.told("chart 3 8;place 3 0 20;place 3 4 20");
        int more = stays.more(3, 2, 99, 0);
        Due.is("by itself", more, 30 * 109);
        Due.stays(stays, () -> Due.is("asking changes nothing", stays.more(3, 2, 99, 0), more));
        stays.place(3, 2, 99);
        Due.is("the tree that would be least then", stays.ink(4) <= 2 * 30 * 30 + more, true);
    }

    private static void constants() {
        Due.sentence("part 3", "The constants: NONE = -1: None; refused.");
        Due.is("NONE", StreamTree.NONE, -1);
        StreamTree x = new StreamTree();
        Due.is("refused", x.place(0, 0, 1), StreamTree.NONE);
        Due.is("none", x.step(1, 1, 0), StreamTree.NONE);
    }

    public static void main(String[] args) {
        calls();
        terms();
        cells();
        trees();
        alone();
        leaning();
        least();
        more();
        constants();
        Due.end();
    }
}
