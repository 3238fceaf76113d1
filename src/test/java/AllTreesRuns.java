import java.util.Random;

/** On small charts every tree is drawn, one after the other: none may have less ink than LEAST. */
public final class AllTreesRuns {
    private static int wrong = 0;

    private static void due(String what, int got, int want) {
        if (got != want) {
            wrong++;
            System.out.println(what + " answered " + got + ", due is " + want);
        }
    }

    private final Random chance;
    private final StreamTree x = new StreamTree();
    private int rings;
    private int turns;
    private int base;
    private int bend;
    private int[][] amount;
    private boolean[][] rock;
    private int least;

    private AllTreesRuns(int run) {
        chance = new Random(run);
    }

    private void makeChart() {
        rings = 2 + chance.nextInt(3);
        turns = 6 + chance.nextInt(2);
        base = 1 + chance.nextInt(30);
        bend = chance.nextInt(3) == 0 ? 0 : chance.nextInt(41);
        amount = new int[rings + 1][turns];
        rock = new boolean[rings + 1][turns];
        x.chart(rings, turns);
        x.set(0, base);
        x.set(1, bend);
        for (int k = 0; k < 3 + chance.nextInt(2); k++) {
            int r = rings - chance.nextInt(chance.nextBoolean() ? 1 : rings);
            int t = chance.nextInt(chance.nextBoolean() ? 4 : turns);
            amount[r][t] = 1 + chance.nextInt(chance.nextBoolean() ? 5 : 99);
            x.place(r, t, amount[r][t]);
        }
        for (int k = chance.nextInt(rings * turns / 2); k > 0; k--) {
            int r = 1 + chance.nextInt(rings);
            int t = chance.nextInt(turns);
            if (amount[r][t] == 0) {
                rock[r][t] = true;
                x.rock(r, t, true);
            }
        }
    }

    /** The trees from this cell on, the cells of its ring and of those within it; comes: what comes to each. */
    private void drawOn(int ring, int turn, int[] comes, int[] next, int ink) {
        if (turn == turns) {
            if (ring == 1) {
                least = least < 0 ? ink : Math.min(least, ink);
                return;
            }
            int[] inner = next.clone();
            for (int t = 0; t < turns; t++) {
                inner[t] += amount[ring - 1][t];
            }
            drawOn(ring - 1, 0, inner, new int[turns], ink);
        } else if (comes[turn] == 0) {
            drawOn(ring, turn + 1, comes, next, ink);
        } else if (ring == 1) {
            drawOn(ring, turn + 1, comes, next, ink + 10 * (base + comes[turn]));
        } else {
            for (int by = -1; by <= 1; by++) {
                int to = (turn + by + turns) % turns;
                if (!rock[ring - 1][to]) {
                    next[to] += comes[turn];
                    drawOn(ring, turn + 1, comes, next, ink + (by == 0 ? 10 : 10 + bend) * (base + comes[turn]));
                    next[to] -= comes[turn];
                }
            }
        }
    }

    private int inkOfSteps(int manner) {
        int sum = 0;
        for (int r = 1; r <= rings; r++) {
            for (int t = 0; t < turns; t++) {
                int side = x.step(manner, r, t);
                sum += side == StreamTree.NONE ? 0 : (side == 0 ? 10 : 10 + bend) * (base + x.width(manner, r, t));
            }
        }
        return sum;
    }

    private void go(int run) {
        makeChart();
        least = -2;
        drawOn(rings, 0, amount[rings].clone(), new int[turns], 0);
        due("run " + run + ": ink(4)", x.ink(4), least);
        for (int manner = 1; manner <= 4; manner++) {
            int ink = x.ink(manner);
            if (ink != -2) {
                due("run " + run + ": ink(" + manner + ") by its steps", inkOfSteps(manner), ink);
                due("run " + run + ": ink(" + manner + ") not below the least", Math.min(ink, least), least);
            }
        }
    }

    public static void main(String[] args) {
        for (int run = 0; run < 1500; run++) {
            new AllTreesRuns(run).go(run);
        }
        System.out.println(wrong == 0 ? "no tree has less ink than LEAST" : wrong + " answers are not as due");
        if (wrong != 0) {
            System.exit(1);
        }
    }
}
