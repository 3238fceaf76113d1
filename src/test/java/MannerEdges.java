/** The bounds of parts 2 and 3: the manners, what goes ahead of what where there is no tree, and MORE. */
public final class MannerEdges {
    private static final int NONE = Due.NONE;
    private static final int NO_TREE = Due.NO_TREE;
    private static final int FAR = Due.FAR;
    private static final int DEEP = Due.DEEP;
    /** Shut in, the one of ring 3; the other one has a way. There is no tree of any manner. */
    private static final String SHUT = "chart 3 8;place 3 0 20;place 2 4 5;rocks 2 7 3";

    private static StreamTree pair(int n, int a, int amountA, int b, int amountB) {
        StreamTree x = new StreamTree();
        x.chart(2, n);
        x.place(2, a, amountA);
        x.place(2, b, amountB);
        return x;
    }

    private static void aloneAndStraight() {
        Due.sentence("part 2", "MANNERS. 0 ALONE is no TREE");
        StreamTree x = Due.told("chart 3 8;place 3 0 20;place 2 0 5");
        Due.is("it has ink", x.ink(0), 30 * 30 + 20 * 15);
        Due.stays(x, () -> {
            Due.is("width", x.width(0, 3, 0), NONE);
            Due.is("step", x.step(0, 3, 0), NONE);
            Due.is("join", x.join(0, 0, 0), NONE);
            Due.is("join, how many", x.join(0, NONE, 0), NONE);
            Due.is("drawn", x.drawn(0, 0), NONE);
            Due.is("way", x.way(0, 0, 0), NONE);
            Due.is("borne", x.borne(0, 3, 0), NONE);
        });

        Due.sentence("part 2", "1 STRAIGHT: each STEP to the same TURN");
        StreamTree y = Due.told("chart 9 24;place 9 0 5;place 9 23 5;place 9 1 5");
        for (int ring = 1; ring <= 9; ring++) {
            for (int p = 0; p < 3; p++) {
                Due.is("way", y.way(1, p, ring), new int[] {0, 1, 23}[p]);
            }
            Due.is("step", y.step(1, ring, 23), 0);
        }
        Due.is("bends", y.drawn(1, 0), 0);
        Due.is("steps", y.drawn(1, 2), 27);
    }

    private static void reach() {
        Due.sentence("part 2", "if it is the only one, or the nearest other one");
        Due.is("the only one", Due.told("chart 2 6;place 2 3 5;reach 6").step(2, 2, 3), 0);
        StreamTree inner = Due.told("chart 3 6;place 3 3 5;place 2 5 5;reach 6");
        Due.is("the only one of its ring", inner.step(2, 3, 3), 0);
        Due.is("further in there are two", inner.step(2, 2, 3), 2);

        Due.sentence("part 2", "is more than REACH away: straight on");
        for (int reach = 0; reach <= 6; reach++) {
            for (int far = 1; far <= 8; far++) {
                StreamTree x = pair(24, 0, 4, far, 5);
                x.set(2, reach);
                Due.is(far + " to the right, REACH " + reach, x.step(2, 2, 0), far > reach ? 0 : 2);
                StreamTree y = pair(24, 0, 4, 24 - far, 5);
                y.set(2, reach);
                Due.is(far + " to the left, REACH " + reach, y.step(2, 2, 0), far > reach ? 0 : 1);
            }
        }

        Due.sentence("part 2", "so many TURNS to the right or to the left; of like ones that to the right");
        for (int far = 2; far <= 3; far++) {
            StreamTree x = Due.told("chart 2 12;place 2 6 5;place 2 " + (6 - far) + " 5;place 2 " + (6 + far) + " 5");
            Due.is("as far to both: right", x.step(2, 2, 6), 2);
            StreamTree y = Due.told("chart 2 12;place 2 6 5;place 2 4 5;place 2 9 5");
            Due.is("nearer to the left", y.step(2, 2, 6), 1);
            StreamTree z = Due.told("chart 2 12;place 2 6 5;place 2 3 5;place 2 8 5");
            Due.is("nearer to the right", z.step(2, 2, 6), 2);
        }
        StreamTree row = Due.told("chart 2 12;place 2 5 9;place 2 6 5;place 2 7 4");
        Due.is("one to the right and one to the left: that to the right is less", row.step(2, 2, 6), 0);
        Due.is("the right one is less", row.step(2, 2, 7), 1);
        row.place(2, 7, 5);
        Due.is("that to the right is like", row.step(2, 2, 6), 2);
        row.place(2, 7, 6);
        Due.is("that to the right is more", row.step(2, 2, 6), 2);
        row.place(2, 5, 4);
        row.place(2, 7, 4);
        Due.is("both are less", row.step(2, 2, 6), 0);

        Due.sentence("part 2", "(With N even, one half round away to both sides: that to the right.)");
        for (int n = 6; n <= 12; n += 2) {
            for (int at = 0; at < n / 2; at++) {
                StreamTree x = pair(n, at, 5, at + n / 2, 7);
                x.set(2, n / 2);
                Due.is("half round of " + n, x.step(2, 2, at), 2);
                Due.is("half round of " + n + ", the other one", x.step(2, 2, at + n / 2), 2);
                x.set(2, n / 2 - 1);
                Due.is("beyond REACH", x.step(2, 2, at), 0);
            }
        }
        for (int n = 7; n <= 13; n += 2) {
            StreamTree x = pair(n, 0, 5, n / 2, 7);
            x.set(2, n / 2);
            Due.is("odd, nearer to the right", x.step(2, 2, 0), 2);
            Due.is("odd, nearer to the left", x.step(2, 2, n / 2), 1);
        }
    }

    private static void near() {
        Due.sentence("part 2", "if that is 2 or more away, to bend to its side");
        for (int far = 2; far <= 3; far++) {
            StreamTree x = pair(12, 2, 9, 2 + far, 1);
            Due.is("whatever it bears", x.step(2, 2, 2), 2);
            Due.is("whatever it bears", x.step(2, 2, 2 + far), 1);
        }

        Due.sentence("part 2", "if it is 1 away: of both that of less WIDTH bends to the other one's side, "
            + "the other one goes straight on");
        for (int n : new int[] {6, 24}) {
            for (int at = 0; at < n; at++) {
                int right = (at + 1) % n;
                StreamTree x = pair(n, at, 4, right, 5);
                Due.is("less, to the right", x.step(2, 2, at), 2);
                Due.is("more, straight", x.step(2, 2, right), 0);
                StreamTree y = pair(n, at, 5, right, 4);
                Due.is("more, straight", y.step(2, 2, at), 0);
                Due.is("less, to the left", y.step(2, 2, right), 1);
            }
        }
        StreamTree borne = Due.told("chart 3 8;place 3 0 5;place 2 0 5;place 2 1 9");
        Due.is("what comes by steps counts too", borne.step(2, 2, 0), 0);
        Due.is("so that one is less", borne.step(2, 2, 1), 1);

        Due.sentence("part 2", "(of like ones the one to whose right the other one is bends)");
        for (int amount : new int[] {1, 99}) {
            StreamTree x = pair(8, 3, amount, 4, amount);
            Due.is("to its right", x.step(2, 2, 3), 2);
            Due.is("to its left", x.step(2, 2, 4), 0);
        }

        Due.sentence("part 2", "Each wants, by how all stand and what comes to each, ahead of all STEPS of that RING");
        StreamTree all = Due.told("chart 3 12;place 3 2 5;place 3 4 5;place 3 7 5");
        Due.is("2 away", all.step(2, 3, 2), 2);
        Due.is("2 to the left, 3 to the right", all.step(2, 3, 4), 1);
        Due.is("3 away, though it goes the other way", all.step(2, 3, 7), 1);

        Due.sentence("part 2", "2 LEAN: RINGS from R to 2, one behind the other");
        for (int rings = 2; rings <= 9; rings++) {
            StreamTree x = new StreamTree();
            x.chart(rings, 12);
            x.place(rings, 3, 5);
            x.place(rings, 5, 5);
            Due.is("RING R leans", x.step(2, rings, 3), 2);
            x.chart(rings, 12);
            x.place(2, 3, 5);
            x.place(2, 5, 5);
            Due.is("RING 2 leans", x.step(2, 2, 5), 1);
            x.chart(rings, 12);
            x.place(1, 3, 5);
            x.place(1, 5, 5);
            Due.is("RING 1 does not", x.step(2, 1, 3), 0);
            Due.is("RING 1 does not", x.drawn(2, 0), 0);
        }
    }

    private static void leanAtRocks() {
        Due.sentence("part 2", "Where it wants to go is a ROCK: straight, left, right, the first of these that is none; "
            + "if all are, there is no such TREE");
        for (int k = 0; k < 4; k++) {
            // It wants to the right, turn 4; straight is 3 and left 2.
            StreamTree x = Due.told("chart 2 12;place 2 3 5;place 2 5 5;place 2 6 9;rocks 1 6 1");
            Due.is("wants right", x.step(2, 2, 3), 2);
            x.rock(1, 2, (k & 1) != 0);
            x.rock(1, 3, (k & 2) != 0);
            Due.is("no rock where it wants to go", x.step(2, 2, 3), 2);
            x.rock(1, 4, true);
            Due.is("a rock there, and at " + k, x.step(2, 2, 3), new int[] {0, 0, 1, NO_TREE}[k]);
        }
        for (int k = 0; k < 4; k++) {
            // It wants to the left, turn 4; straight is 5 and right 6.
            StreamTree x = Due.told("chart 2 12;place 2 5 5;place 2 3 5;place 2 2 9;rocks 1 2 1");
            Due.is("wants left", x.step(2, 2, 5), 1);
            x.rock(1, 5, (k & 1) != 0);
            x.rock(1, 6, (k & 2) != 0);
            Due.is("no rock where it wants to go", x.step(2, 2, 5), 1);
            x.rock(1, 4, true);
            Due.is("a rock there, and at " + k, x.step(2, 2, 5), new int[] {0, 2, 0, NO_TREE}[k]);
        }
        for (int k = 0; k < 4; k++) {
            // It wants straight on, turn 3; left is 2 and right 4.
            StreamTree x = Due.told("chart 2 12;place 2 3 5");
            x.rock(1, 2, (k & 1) != 0);
            x.rock(1, 4, (k & 2) != 0);
            Due.is("no rock where it wants to go", x.step(2, 2, 3), 0);
            x.rock(1, 3, true);
            Due.is("a rock there, and at " + k, x.step(2, 2, 3), new int[] {1, 2, 1, NO_TREE}[k]);
        }
    }

    /** Turns are told from a first one on, round, so that the same stands at each edge. */
    private static StreamTree detour(int n, int from, boolean mirrored) {
        StreamTree x = new StreamTree();
        x.chart(3, n);
        putDetour(x, 3, from, mirrored);
        return x;
    }

    private static void putDetour(StreamTree x, int ring, int from, boolean mirrored) {
        int n = x.count(1);
        x.place(ring, turn(n, from, 4, mirrored), 5);
        x.place(ring, turn(n, from, 7, mirrored), 5);
        x.place(ring - 1, turn(n, from, 3, mirrored), 5);
        x.rock(ring - 1, turn(n, from, 6, mirrored), true);
        x.rock(ring - 1, turn(n, from, 7, mirrored), true);
    }

    private static int turn(int n, int from, int by, boolean mirrored) {
        return Math.floorMod(mirrored ? from - by : from + by, n);
    }

    private static void straightened() {
        Due.sentence("part 2", "3 STRAIGHTENED: LEAN, and then, RINGS from R to 3, TURNS from 0 on");
        for (int n : new int[] {11, 12, 24}) {
            for (int from = 0; from < n; from++) {
                straightenedAt(n, from, false);
                straightenedAt(n, from, true);
            }
        }

        for (int rings = 3; rings <= 9; rings++) {
            for (int ring = 3; ring <= rings; ring++) {
                StreamTree x = new StreamTree();
                x.chart(rings, 12);
                putDetour(x, ring, 0, false);
                Due.is("LEAN bends in ring " + ring + " of " + rings, x.step(2, ring, 4), 2);
                Due.is("and back", x.step(2, ring - 1, 5), 1);
                Due.is("straight", x.step(3, ring, 4), 0);
                Due.is("straight on", x.step(3, ring - 1, 4), 0);
            }
        }

        Due.sentence("part 2", "a CELL whose STEP bends, to a CELL with no PLACE to which nothing else comes");
        StreamTree place = detour(12, 0, false);
        place.place(2, 5, 5);
        dueDetourStays("a place there", place);
        StreamTree comes = detour(12, 0, false);
        comes.place(3, 6, 5);
        Due.is("something else comes there", comes.step(2, 3, 6), 1);
        dueDetourStays("something else comes there", comes);

        Due.sentence("part 2", "whose STEP (not to the SOURCE) bends to the other side");
        StreamTree same = detour(12, 0, false);
        same.place(2, 3, 0);
        Due.is("to the same side, LEAN", same.step(2, 2, 5), 2);
        Due.is("to the same side", same.step(3, 3, 4), 2);
        Due.is("to the same side", same.step(3, 2, 5), 2);
        StreamTree on = detour(12, 0, false);
        on.rock(1, 4, true);
        Due.is("straight on, LEAN", on.step(2, 2, 5), 0);
        Due.is("straight on", on.step(3, 3, 4), 2);
        StreamTree toSource = Due.told("chart 2 12;place 2 2 5;place 2 4 5");
        Due.is("to the source", toSource.step(3, 2, 2), 2);
        Due.is("to the source", toSource.step(3, 2, 4), 1);

        Due.sentence("part 2", "if in the RING between the CELL of its own TURN is no ROCK and nothing comes to it");
        StreamTree rock = detour(12, 0, false);
        rock.rock(2, 4, true);
        dueDetourStays("a rock between", rock);
        StreamTree between = detour(12, 0, false);
        between.place(2, 4, 9);
        dueDetourStays("something comes between", between);
    }

    private static void straightenedAt(int n, int from, boolean mirrored) {
        StreamTree x = detour(n, from, mirrored);
        int own = turn(n, from, 4, mirrored);
        int beside = turn(n, from, 5, mirrored);
        int there = mirrored ? 1 : 2;
        String at = " of " + n + " from " + from + (mirrored ? " mirrored" : "");
        Due.is("LEAN bends" + at, x.step(2, 3, own), there);
        Due.is("LEAN bends back" + at, x.step(2, 2, beside), 3 - there);
        Due.is("straight" + at, x.step(3, 3, own), 0);
        Due.is("straight on" + at, x.step(3, 2, own), 0);
        Due.is("by that one" + at, x.width(3, 2, own), 5);
        Due.is("nothing comes beside" + at, x.width(3, 2, beside), 0);
        Due.is("no step from there" + at, x.step(3, 2, beside), NONE);
        Due.is("two bends less" + at, x.drawn(3, 0), x.drawn(2, 0) - 2);
        Due.is("as many steps" + at, x.drawn(3, 2), x.drawn(2, 2));
        Due.is("less ink" + at, x.ink(3), x.ink(2) - 2 * 4 * 15);
    }

    private static void dueDetourStays(String why, StreamTree x) {
        Due.is(why + ", LEAN bends", x.step(2, 3, 4), 2);
        Due.is(why + ", LEAN bends back", x.step(2, 2, 5), 1);
        Due.is(why, x.step(3, 3, 4), 2);
        Due.is(why, x.step(3, 2, 5), 1);
        Due.is(why, x.ink(3), x.ink(2));
    }

    private static void leastOrder() {
        Due.sentence("part 2", "0, if that is one PLACE that is there");
        StreamTree x = Due.told("chart 3 8;place 3 2 7;place 2 2 5");
        Due.is("there", x.best(2, 2, 1), 0);
        Due.is("there", x.best(3, 2, 2), 0);
        Due.is("another one", x.best(2, 2, 2), 10 * 17);
        Due.is("that one and another", x.best(2, 2, 3), 10 * 17);
        Due.is("not there", x.best(3, 2, 1), NO_TREE);

        Due.sentence("part 2", "else the first least of: BEST of two sets that make it, both at that CELL");
        // Apart 20 * (20 + w), together 14 * (20 + w) + 10 * (10 + w): like ones with w 5, and sets go ahead of steps.
        dueTogether(1, 3, true, 476);
        dueTogether(2, 3, false, 500);
        dueTogether(3, 3, false, 520);

        Due.sentence("part 2", "by the bits of the one that has the set's least PLACE, rising");
        StreamTree middle = Due.told("chart 2 8;place 2 0 1;place 2 2 1;place 2 4 1");
        Due.is("bits 1 ahead of 3: the first one alone", middle.step(4, 2, 0), 0);
        Due.is("the others join", middle.join(4, 0, 1), 3);
        Due.is("its ink", middle.ink(4), 20 * 11 + 14 * 22 + 10 * 12);
        StreamTree first = Due.told("chart 2 8;place 2 0 1;place 2 2 1;place 2 6 1");
        Due.is("bits 3 ahead of 5: the third one alone", first.step(4, 2, 6), 0);
        Due.is("the others join", first.join(4, 0, 1), 1);

        Due.sentence("part 2", "then, of the CELLS outwards from which a STEP goes there, those of the same TURN, "
            + "of one less, of one more (of the SOURCE: by TURNS)");
        StreamTree early = Due.told("chart 3 8;place 3 4 5;rocks 1 4 2");
        Due.is("the same turn ahead of one more", early.way(4, 0, 2), 3);
        StreamTree late = Due.told("chart 3 8;place 3 4 5;rocks 1 3 2");
        Due.is("the same turn ahead of one less", late.way(4, 0, 2), 5);
        for (int turn = 0; turn < 8; turn++) {
            StreamTree sides = new StreamTree();
            sides.chart(3, 8);
            sides.place(3, turn, 5);
            sides.rock(2, turn, true);
            for (int other = 1; other < 8; other++) {
                sides.rock(1, (turn + other) % 8, true);
            }
            Due.is("one less ahead of one more at " + turn, sides.way(4, 0, 2), (turn + 7) % 8);
            Due.is("and back", sides.way(4, 0, 1), turn);
        }
        for (int turn = 0; turn < 8; turn++) {
            StreamTree source = new StreamTree();
            source.chart(2, 8);
            source.place(2, turn, 5);
            source.rock(1, turn, true);
            Due.is("of the source by turns", source.way(4, 0, 1), turn == 0 ? 1 : turn == 7 ? 0 : turn - 1);
        }

        Due.sentence("part 2", "(A ROCK has none.)");
        StreamTree rock = Due.told("chart 3 8;place 3 2 7;rocks 2 2 1");
        Due.is("none of it", rock.best(2, 2, 1), NONE);
        Due.is("none by it", rock.best(1, 2, 1), 2 * 14 * 17);
        rock.rock(2, 1, true);
        Due.is("by the last one", rock.best(1, 2, 1), 2 * 14 * 17);
        rock.rock(2, 3, true);
        Due.is("none at all", rock.best(1, 2, 1), NO_TREE);
    }

    private static void dueTogether(int a, int b, boolean together, int ink) {
        StreamTree x = pair(8, 0, a, 2, b);
        String at = a + " and " + b;
        Due.is("ink of " + at, x.ink(4), ink);
        Due.is("the left one of " + at, x.step(4, 2, 0), together ? 2 : 0);
        Due.is("the right one of " + at, x.step(4, 2, 2), together ? 1 : 0);
        Due.is("they join at RING", x.join(4, 0, 0), together ? 1 : 0);
    }

    private static void noTreeAhead() {
        Due.sentence("part 2", "(Where there is no TREE, -2 goes ahead of the NONE of a CELL to which nothing comes");
        StreamTree x = Due.told(SHUT);
        Due.stays(x, () -> {
            for (int manner = 1; manner <= 4; manner++) {
                Due.is("step", x.step(manner, 3, 5), NO_TREE);
                Due.is("step of a rock", x.step(manner, 2, 0), NO_TREE);
                Due.is("width", x.width(manner, 3, 5), NO_TREE);
                Due.is("borne", x.borne(manner, 3, 5), NO_TREE);
            }
        });

        Due.sentence("part 2", "of step() of the SOURCE");
        for (int manner = 1; manner <= 4; manner++) {
            Due.is("step of it", x.step(manner, 0, 0), NO_TREE);
            Due.is("step of none", x.step(manner, 0, 1), NONE);
            Due.is("with a tree", new StreamTree().step(manner, 0, 0), NONE);
        }

        Due.sentence("part 2", "of a JOIN that is not there");
        for (int manner = 1; manner <= 4; manner++) {
            for (int i : new int[] {0, 1, 7, FAR, NONE}) {
                Due.is("join(" + manner + ", " + i + ", 0)", x.join(manner, i, 0), NO_TREE);
            }
            Due.is("with a tree", new StreamTree().join(manner, 0, 0), NONE);
        }

        Due.sentence("part 2", "of way() to a RING further out");
        for (int manner = 1; manner <= 4; manner++) {
            Due.is("further out", x.way(manner, 1, 3), NO_TREE);
            Due.is("its own", x.way(manner, 1, 2), NO_TREE);
            Due.is("the source", x.way(manner, 1, 0), NO_TREE);
        }

        Due.sentence("part 2", "behind that of others");
        StreamTree y = Due.told(SHUT);
        Due.stays(y, () -> othersOfTrees(y));
        StreamTree z = Due.told(SHUT);
        Due.stays(z, () -> othersOfAsking(z));
    }

    private static void othersOfTrees(StreamTree x) {
        for (int manner : new int[] {0, 5, -1, FAR, DEEP}) {
            Due.is("ink(" + manner + ")", x.ink(manner), manner == 0 ? NO_TREE : NONE);
            Due.is("width of manner " + manner, x.width(manner, 1, 1), NONE);
            Due.is("step of manner " + manner, x.step(manner, 1, 1), NONE);
            Due.is("join of manner " + manner, x.join(manner, 0, 0), NONE);
            Due.is("how many joins of manner " + manner, x.join(manner, NONE, 0), NONE);
            Due.is("drawn of manner " + manner, x.drawn(manner, 0), NONE);
            Due.is("way of manner " + manner, x.way(manner, 0, 0), NONE);
            Due.is("borne of manner " + manner, x.borne(manner, 1, 1), NONE);
        }
        for (int manner = 1; manner <= 4; manner++) {
            for (int[] c : new int[][] {{0, 1}, {0, -1}, {4, 0}, {-1, 0}, {1, 8}, {1, -1}, {FAR, 0}, {1, DEEP}}) {
                Due.is("width of no cell", x.width(manner, c[0], c[1]), NONE);
                Due.is("step of no cell", x.step(manner, c[0], c[1]), NONE);
                Due.is("borne of no cell", x.borne(manner, c[0], c[1]), NONE);
            }
            Due.is("borne of the source", x.borne(manner, 0, 0), NONE);
            for (int what : new int[] {-1, 3, FAR, DEEP}) {
                Due.is("join of another what", x.join(manner, 0, what), NONE);
                Due.is("how many joins of another what", x.join(manner, NONE, what), NONE);
            }
            for (int i : new int[] {-2, DEEP}) {
                Due.is("join(" + manner + ", " + i + ", 0)", x.join(manner, i, 0), NONE);
            }
        }
    }

    private static void othersOfAsking(StreamTree x) {
        for (int manner = 1; manner <= 4; manner++) {
            for (int what : new int[] {-1, 5, FAR, DEEP}) {
                Due.is("drawn of another what", x.drawn(manner, what), NONE);
            }
            for (int place : new int[] {-1, 2, FAR, DEEP}) {
                Due.is("way of no place", x.way(manner, place, 0), NONE);
            }
            for (int ring : new int[] {-1, 4, FAR, DEEP}) {
                Due.is("way to no ring", x.way(manner, 0, ring), NONE);
            }
        }
        Due.is("alone of no place", x.alone(2), NONE);
        Due.is("costs of no place", x.costs(2), NONE);
        Due.is("costs of no place", x.costs(-1), NONE);
        Due.is("bars of no rock", x.bars(2, 2), NONE);
        Due.is("more at a rock", x.more(2, 0, 1, 0), NONE);
        Due.is("more at the source", x.more(0, 0, 1, 0), NONE);
        Due.is("more of nothing", x.more(1, 1, 0, 0), NONE);
        Due.is("more of too much", x.more(1, 1, 100, 0), NONE);
        Due.is("more of another what", x.more(1, 1, 1, 3), NONE);
        Due.is("best at a rock", x.best(2, 0, 1), NONE);
        Due.is("best of no set", x.best(0, 0, 0), NONE);
        Due.is("best of too large a set", x.best(0, 0, 4), NONE);
        Due.is("count of another what", x.count(10), NONE);
    }

    private static void noTree() {
        Due.sentence("part 2", "There is no TREE of a MANNER, if a ROCK is in the way (STRAIGHT)");
        for (int ring = 1; ring <= 3; ring++) {
            StreamTree x = Due.told("chart 4 8;place 4 3 5;rocks " + ring + " 3 1");
            Due.is("in ring " + ring, x.ink(1), NO_TREE);
            Due.is("the others go round it", x.ink(4), 44 * 15);
        }
        StreamTree out = Due.told("chart 4 8;place 3 3 5;rocks 4 3 1;rocks 1 2 1;rocks 1 4 1");
        Due.is("further out, and beside: not in the way", out.ink(1), 30 * 15);
        out.rock(1, 6, true);
        out.place(1, 7, 5);
        Due.is("not in the way of any", out.ink(1), 30 * 15 + 150);
        out.place(2, 6, 5);
        Due.is("in the way of one", out.ink(1), NO_TREE);

        Due.sentence("part 2", "LEAN finds none (STRAIGHTENED neither)");
        StreamTree dead = Due.told("chart 4 8;place 4 0 20;rocks 2 7 3");
        Due.is("LEAN", dead.ink(2), NO_TREE);
        Due.is("STRAIGHTENED", dead.ink(3), NO_TREE);
        Due.is("STRAIGHTENED, width", dead.width(3, 4, 0), NO_TREE);
        Due.is("LEAST finds one", dead.ink(4), (14 + 14 + 10 + 10) * 30);
        dead.rock(2, 1, false);
        Due.is("LEAN, by the last that is none", dead.ink(2), (10 + 14 + 10 + 10) * 30);
        Due.is("STRAIGHTENED too", dead.ink(3), (10 + 14 + 10 + 10) * 30);

        Due.sentence("part 2", "some PLACE has no way at all (LEAST; ALONE likewise)");
        StreamTree shut = Due.told(SHUT);
        Due.is("LEAST", shut.ink(4), NO_TREE);
        Due.is("ALONE", shut.ink(0), NO_TREE);
        Due.is("that one", shut.alone(0), NO_TREE);
        Due.is("the other one", shut.alone(1), 20 * 15);
        Due.is("by how much it is less", shut.count(9), NO_TREE);
        shut.rock(2, 1, false);
        Due.is("LEAST, by the last that is none", shut.ink(4), 34 * 30 + 20 * 15);
        Due.is("ALONE", shut.ink(0), 34 * 30 + 20 * 15);

        for (int n : new int[] {6, 24}) {
            for (int turn = 0; turn < n; turn++) {
                StreamTree x = new StreamTree();
                x.chart(2, n);
                x.place(2, turn, 5);
                x.rock(1, turn, true);
                x.rock(1, (turn + 1) % n, true);
                Due.is("one is left of " + turn, x.ink(4), 24 * 15);
                x.rock(1, (turn + n - 1) % n, true);
                Due.is("none is left of " + turn, x.ink(4), NO_TREE);
                Due.is("ALONE", x.ink(0), NO_TREE);
                Due.is("LEAN", x.ink(2), NO_TREE);
            }
        }

        Due.sentence("part 2", "Without PLACES there is one, with INK 0");
        StreamTree none = Due.told("chart 2 6;rocks 1 0 6;rocks 2 0 5");
        for (int manner = 0; manner <= 4; manner++) {
            Due.is("ink(" + manner + ")", none.ink(manner), 0);
        }
        for (int manner = 1; manner <= 4; manner++) {
            Due.is("width of the source", none.width(manner, 0, 0), 0);
            Due.is("width", none.width(manner, 2, 5), 0);
            Due.is("step", none.step(manner, 2, 5), NONE);
            Due.is("step of the source", none.step(manner, 0, 0), NONE);
            Due.is("joins", none.join(manner, NONE, 0), 0);
            Due.is("a join", none.join(manner, 0, 0), NONE);
            for (int what = 0; what <= 4; what++) {
                Due.is("drawn(" + manner + ", " + what + ")", none.drawn(manner, what), 0);
            }
            Due.is("way", none.way(manner, 0, 0), NONE);
            Due.is("borne", none.borne(manner, 2, 5), 0);
        }
        Due.is("bars", none.bars(1, 0), 0);
        Due.is("count(9)", none.count(9), 0);
        Due.is("more, shut in", none.more(2, 5, 1, 0), NO_TREE);
        none.rock(1, 0, false);
        Due.is("more", none.more(2, 5, 1, 0), 24 * 11);
        none.place(2, 5, 1);
        Due.is("with one", none.ink(4), 24 * 11);
        none.place(2, 5, 0);
        Due.is("without it again", none.ink(4), 0);
    }

    private static void dueMore(String what, StreamTree x, int[] cell, int amount, int[] due) {
        for (int k = 0; k < 3; k++) {
            Due.is(what + ", what " + k, x.more(cell[0], cell[1], amount, k), due[k]);
        }
    }

    private static void more() {
        Due.sentence("part 3", "(0 STEPS of its own, if it is one of it)");
        StreamTree x = Due.told("chart 3 8;place 3 0 20;rocks 2 0 1;rocks 2 7 1");
        dueMore("at the place", x, new int[] {3, 0}, 5, new int[] {34 * 5, 3, 0});
        dueMore("where it passes", x, new int[] {2, 1}, 5, new int[] {20 * 5, 2, 1});
        dueMore("at the last cell", x, new int[] {1, 1}, 99, new int[] {10 * 99, 1, 1});

        Due.sentence("part 3", "by STEPS of its own over CELLS to which nothing comes, till one of it (or the SOURCE)");
        dueMore("one step", x, new int[] {3, 1}, 5, new int[] {10 * 15 + 20 * 5, 2, 1});
        dueMore("far off, to the source", x, new int[] {3, 5}, 5, new int[] {30 * 15, 0, 0});
        dueMore("from ring 1 to the source", x, new int[] {1, 2}, 1, new int[] {10 * 11, 0, 0});
        StreamTree over = Due.told("chart 3 8;place 3 3 99;rocks 2 3 2;rocks 1 1 2");
        // The tree goes (3,3) left to (2,2), right to (1,3); what comes to it goes as it goes.
        Due.is("the tree", over.way(4, 0, 2), 2);
        Due.is("the tree", over.way(4, 0, 1), 3);
        dueMore("on as the tree goes", over, new int[] {3, 2}, 1, new int[] {10 * 11 + 24, 2, 2});
        StreamTree round = Due.told("chart 3 8;place 2 2 9;rocks 2 4 1;rocks 1 4 2");
        dueMore("own steps go round rocks", round, new int[] {3, 4}, 90, new int[] {14 * 100 + 20 * 100, 0, 0});
        round.rock(1, 3, true);
        dueMore("and to the tree", round, new int[] {3, 4}, 90, new int[] {14 * 100 + 14 * 100 + 900, 1, 2});

        Due.sentence("part 3", "and from there as it goes");
        StreamTree bent = Due.told("chart 2 8;place 2 3 5;rocks 1 3 1");
        dueMore("by its bend", bent, new int[] {2, 3}, 7, new int[] {24 * 7, 2, 3});

        Due.sentence("part 3", "the least; where it comes to it: of like ones the inmost, then of least TURN");
        StreamTree like = Due.told("chart 3 8;place 3 0 20;place 3 4 7");
        dueMore("dearer by itself", like, new int[] {2, 1}, 14, new int[] {14 * 24 + 10 * 14, 1, 0});
        dueMore("like ones, the inmost", like, new int[] {2, 1}, 15, new int[] {20 * 25, 0, 0});
        dueMore("cheaper by itself", like, new int[] {2, 1}, 16, new int[] {20 * 26, 0, 0});
        dueMore("like ones, the least turn", like, new int[] {3, 2}, 1, new int[] {28 * 11 + 10, 1, 0});
        StreamTree edge = Due.told("chart 2 8;place 1 1 5;place 1 7 5");
        dueMore("over the edge, the least turn", edge, new int[] {2, 0}, 1, new int[] {14 * 11 + 10, 1, 1});
        StreamTree outer = Due.told("chart 3 8;place 2 1 5;place 2 7 5");
        dueMore("over the edge further out", outer, new int[] {3, 0}, 1, new int[] {14 * 11 + 20, 2, 1});
        StreamTree inner = Due.told("chart 3 8;place 2 5 20;place 1 4 5");
        // 14 * 25 + 20 * 15 by (2,5), 20 * 25 + 10 * 15 by (1,4).
        dueMore("like ones, the inmost though its turn is more", inner, new int[] {3, 4}, 15, new int[] {650, 1, 4});
        dueMore("dearer further in", inner, new int[] {3, 4}, 14, new int[] {14 * 24 + 20 * 14, 2, 5});
        dueMore("cheaper further in", inner, new int[] {3, 4}, 16, new int[] {20 * 26 + 10 * 16, 1, 4});
        StreamTree free = Due.told("chart 3 8;place 2 3 5;place 2 5 5;bend 0;base 1;rocks 1 5 3;rocks 2 4 1");
        dueMore("no like ones: further out is less", free, new int[] {3, 4}, 1, new int[] {10 * 2 + 20, 2, 3});

        Due.sentence("part 3", "if from that CELL so much came to it as well");
        dueMore("the least amount", edge, new int[] {1, 4}, 1, new int[] {10 * 11, 0, 0});
        dueMore("the most", edge, new int[] {1, 4}, 99, new int[] {10 * 109, 0, 0});
        Due.stays(edge, () -> {
            for (int amount : new int[] {0, 100, -1, FAR, DEEP}) {
                Due.is("more of " + amount, edge.more(1, 4, amount, 0), NONE);
            }
        });
    }

    public static void main(String[] args) {
        aloneAndStraight();
        reach();
        near();
        leanAtRocks();
        straightened();
        leastOrder();
        noTreeAhead();
        noTree();
        more();
        Due.end();
    }
}
