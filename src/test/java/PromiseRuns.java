import java.util.NoSuchElementException;

/** For each promise of the document: ordinary calls, the edges that it names, wrong calls. */
public final class PromiseRuns {
    private static final int NONE = StreamTree.NONE;
    private static final int NO_TREE = -2;
    private static final int FAR = Integer.MAX_VALUE;
    private static final int DEEP = Integer.MIN_VALUE;
    private static int wrong = 0;
    private static int promise = 0;

    private static void due(String call, int got, int want) {
        if (got != want) {
            wrong++;
            System.out.println("promise " + promise + ": " + call + " answered " + got + ", due is " + want);
        }
    }

    private static void due(String call, boolean got, boolean want) {
        due(call, got ? 1 : 0, want ? 1 : 0);
    }

    private static void feedAll(StreamTree x, String text) {
        for (int i = 0; i < text.length(); i += 20) {
            int[] v = new int[5];
            for (int k = 0; k < 20; k++) {
                int b = i + k < text.length() ? text.charAt(i + k) & 255 : 32;
                v[k / 4] |= b << (24 - 8 * (k % 4));
            }
            x.feed(v[0], v[1], v[2], v[3], v[4]);
        }
    }

    private static int read(StreamTree x, String text) {
        feedAll(x, text);
        return x.text(text.length());
    }

    private static StreamTree told(String text) {
        StreamTree x = new StreamTree();
        int answer = read(x, text);
        if (answer < 0) {
            due("the text '" + text + "'", answer, 0);
        }
        return x;
    }

    /** What a text that has a fault there answers. */
    private static int fault(int place, int kind) {
        return -2 - (8 * place + kind);
    }

    private static void dueText(String text, int want) {
        due("text of '" + text + "'", read(new StreamTree(), text), want);
    }

    private static void dueThrows(StreamTree x, int place, int what) {
        int thrown = 0;
        try {
            x.at(place, what);
        } catch (NoSuchElementException e) {
            thrown = 1;
        }
        due("at(" + place + ", " + what + ") throws", thrown, 1);
    }

    private static void newObject() {
        StreamTree x = new StreamTree();
        int[] first = {5, 12, 0, 0, 10, 4, 3, 0, 0, 0};
        for (int what = 0; what < first.length; what++) {
            due("count(" + what + ")", x.count(what), first[what]);
        }
        due("NONE", StreamTree.NONE, -1);
        due("place(5, 11, 1)", x.place(5, 11, 1), 1);
        due("place(6, 0, 1)", x.place(6, 0, 1), NONE);
        due("place(1, 12, 1)", x.place(1, 12, 1), NONE);
        due("another object's count(2)", new StreamTree().count(2), 0);
    }

    private static void feed() {
        StreamTree x = new StreamTree();
        for (int k = 1; k <= 25; k++) {
            due("feed", x.feed(1, 2, 3, 4, 5), 20 * k);
        }
        due("feed of a full tape", x.feed(1, 2, 3, 4, 5), NONE);
        due("count(8)", x.count(8), 500);
        due("text(500)", x.text(500), fault(0, 1));
        due("feed", x.feed(0, 0, 0, 0, 0), 20);
        // The highest byte first, of each number, and the numbers in their order.
        StreamTree y = new StreamTree();
        y.feed(0x63686172, 0x74203220, 0x363b6261, 0x73652037, 0x2020203b);
        due("text(16)", y.text(16), 0);
        due("count(4)", y.count(4), 7);
        StreamTree z = new StreamTree();
        z.feed(0xff686172, -1, -1, -1, -1);
        due("text(1) of a byte 255", z.text(1), fault(0, 1));
    }

    private static void text() {
        StreamTree x = new StreamTree();
        feedAll(x, "chart 3 8");
        due("text(21)", x.text(21), NONE);
        due("text(-1)", x.text(-1), NONE);
        due("text(" + DEEP + ")", x.text(DEEP), NONE);
        due("text(" + FAR + ")", x.text(FAR), NONE);
        due("the tape stays", x.count(8), 20);
        due("text(9)", x.text(9), 0);
        due("the tape is empty", x.count(8), 0);
        due("count(0)", x.count(0), 3);
        due("count(1)", x.count(1), 8);
        // What no line tells is as at first, not as it was.
        x.set(0, 50);
        x.set(1, 0);
        x.set(2, 6);
        x.place(1, 1, 9);
        x.rock(2, 2, true);
        due("text", read(x, "chart 9 24;place 9 23 99;place 1 0 1"), 2);
        int[] then = {9, 24, 2, 0, 10, 4, 3, 100, 0};
        for (int what = 0; what < then.length; what++) {
            due("count(" + what + ")", x.count(what), then[what]);
        }
        // A fault: the tape is empty, all else stays.
        due("text", read(x, "chart 2 6;base 9;place 1 1 1;bend 41"), fault(34, 2));
        for (int what = 0; what < then.length; what++) {
            due("count(" + what + ") behind a fault", x.count(what), then[what]);
        }
        due("at(0, 0) behind a fault", x.at(0, 0), 1);
        StreamTree y = told("chart 4 6;rocks 2 4 4;rocks 2 0 2;base 1;base 99;bend 40;bend 0;reach 6;reach 0");
        due("count(3)", y.count(3), 4);
        for (int t = 0; t < 6; t++) {
            due("rock at " + t, y.best(2, t, 1), NONE);
            due("no rock any more at " + t, y.rock(2, t, false), t != 2 && t != 3);
        }
        due("count(4)", y.count(4), 99);
        due("count(5)", y.count(5), 0);
        due("count(6)", y.count(6), 0);
        due("all of a ring", told("chart 2 6;rocks 1 5 6").count(3), 6);
    }

    private static void textTokens() {
        dueText("chart 2 6", 0);
        dueText("chart2 6", 0);
        dueText("  chart\n002\n\n006;place1 5 99;place 2 5 1 \n", 2);
        dueText("chart 2 6;base1;bend0;reach0", 0);
        dueText("", fault(0, 1));
        dueText("   ", fault(3, 1));
        dueText("chart", fault(5, 1));
        dueText("chart  ", fault(7, 1));
        dueText("chart 2", fault(7, 1));
        dueText("chart 2;6", fault(7, 1));
        dueText("chart 26", fault(6, 2));
        dueText("charts 2 6", fault(0, 1));
        dueText("char t 2 6", fault(0, 1));
        dueText("Chart 2 6", fault(0, 1));
        dueText("chart\t2 6", fault(5, 1));
        dueText("chart 2 6 7", fault(10, 1));
        dueText("chart 2 6 base 3", fault(10, 1));
        dueText("chart 2 6;", fault(10, 1));
        dueText("chart 2 6; ", fault(11, 1));
        dueText("chart 2 6;;base 3", fault(10, 1));
        dueText("chart 2 6;7", fault(10, 1));
        dueText("chart 2 6;rock 1 1 1", fault(10, 1));
        dueText("chart 2 6;chart 2 6", fault(10, 1));
        dueText("chart 2 6;base x", fault(15, 1));
        dueText("chart 2 6;base", fault(14, 1));
        dueText("chart 2 6;basez 1", fault(10, 1));
        dueText("chart 2 6;abase 1", fault(10, 1));
        dueText("chart 2 6;place 1 1", fault(19, 1));
        dueText("chart 2 6;place 1 1 -1", fault(20, 1));
        dueText("chart 2 6;base \u00e9", fault(15, 1));
        // Four digits that stand together are no number.
        dueText("chart 0002 6", fault(6, 1));
        dueText("chart 2 6;base 1000", fault(15, 1));
        dueText("chart 2 6;base 0001000", fault(15, 1));
    }

    private static void textFaults() {
        dueText("chart 1 6", fault(6, 2));
        dueText("chart 9 24", 0);
        dueText("chart 10 6", fault(6, 2));
        dueText("chart 2 5", fault(8, 2));
        dueText("chart 2 25", fault(8, 2));
        dueText("chart 10 5?", fault(6, 2));
        dueText("chart 2 6;place 0 0 1", fault(16, 2));
        dueText("chart 2 6;place 3 0 1", fault(16, 2));
        dueText("chart 2 6;place 2 6 1", fault(18, 2));
        dueText("chart 2 6;place 2 5 0", fault(20, 2));
        dueText("chart 2 6;place 2 5 100", fault(20, 2));
        dueText("chart 2 6;rocks 0 0 1", fault(16, 2));
        dueText("chart 2 6;rocks 3 0 1", fault(16, 2));
        dueText("chart 2 6;rocks 1 6 1", fault(18, 2));
        dueText("chart 2 6;rocks 1 5 0", fault(20, 2));
        dueText("chart 2 6;rocks 1 5 7", fault(20, 2));
        dueText("chart 2 6;base 0", fault(15, 2));
        dueText("chart 2 6;base 100", fault(15, 2));
        dueText("chart 2 6;bend 41", fault(15, 2));
        dueText("chart 2 6;reach 7", fault(16, 2));
        dueText("chart 2 6;place 1 1 1;place 1 1 2", fault(30, 3));
        dueText("chart 2 6;place 1 1 1;place 1 1 0", fault(30, 3));
        dueText("chart 2 6;place 1 1 1;place 1 1", fault(30, 3));
        dueText("chart 2 6;rocks 1 5 2;place 1 0 2", fault(30, 3));
        dueText("chart 2 6;place 1 0 2;rocks 1 5 2", fault(32, 3));
        dueText("chart 2 6;place 1 0 2;rocks 1 5 1;rocks 1 1 5", 1);
        dueText("chart 2 6;place 1 0 2;rocks 1 0 7", fault(32, 2));
        String seven = "chart 2 6;place 1 0 1;place 1 1 1;place 1 2 1;place 1 3 1;place 1 4 1;place 1 5 1;place 2 0 1";
        dueText(seven, 7);
        dueText(seven + ";place 2 1 1", fault(seven.length() + 1, 4));
        dueText(seven + "; place 9 9 9", fault(seven.length() + 2, 4));
        dueText(seven + ";place", fault(seven.length() + 1, 4));
        dueText(seven + ";rocks 2 1 5;reach 0", 7);
        // 500 bytes can be a text; the last one is byte 499.
        String longest = "chart 2 6" + " ".repeat(484) + ";base 8";
        dueText(longest, 0);
        dueText(longest.substring(0, 499) + "x", fault(499, 1));
    }

    private static void chart() {
        StreamTree x = new StreamTree();
        x.set(0, 7);
        x.set(1, 8);
        x.set(2, 1);
        x.place(3, 3, 3);
        x.rock(4, 4, true);
        x.feed(1, 2, 3, 4, 5);
        int[][] others = {{1, 6}, {10, 6}, {2, 5}, {2, 25}, {-2, 6}, {2, -6}, {FAR, 6}, {2, FAR}, {DEEP, DEEP}, {0, 0}};
        for (int[] o : others) {
            due("chart(" + o[0] + ", " + o[1] + ")", x.chart(o[0], o[1]), false);
        }
        due("places stay", x.count(2), 1);
        due("chart(9, 24)", x.chart(9, 24), true);
        int[] then = {9, 24, 0, 0, 7, 8, 1, 0, 20, 0};
        for (int what = 0; what < then.length; what++) {
            due("count(" + what + ")", x.count(what), then[what]);
        }
        due("place(9, 23, 99)", x.place(9, 23, 99), 1);
        due("chart(2, 6)", x.chart(2, 6), true);
        due("place(3, 0, 1)", x.place(3, 0, 1), NONE);
        due("place(2, 6, 1)", x.place(2, 6, 1), NONE);
        due("the same chart again", x.chart(2, 6), true);
    }

    private static void place() {
        StreamTree x = new StreamTree();
        int[][] others = {{0, 0, 1}, {6, 0, 1}, {1, -1, 1}, {1, 12, 1}, {1, 1, -1}, {1, 1, 100}, {1, 1, 0},
            {FAR, 1, 1}, {1, FAR, 1}, {1, 1, FAR}, {DEEP, DEEP, DEEP}, {-1, 1, 1}};
        for (int[] o : others) {
            due("place(" + o[0] + ", " + o[1] + ", " + o[2] + ")", x.place(o[0], o[1], o[2]), NONE);
        }
        due("place(3, 5, 99)", x.place(3, 5, 99), 1);
        due("place(3, 5, 1)", x.place(3, 5, 1), 1);
        due("its amount", x.at(0, 2), 1);
        due("the same amount", x.place(3, 5, 1), 1);
        // By turns, of like ones by rings.
        due("place(2, 5, 2)", x.place(2, 5, 2), 2);
        due("place(5, 4, 3)", x.place(5, 4, 3), 3);
        due("place(1, 11, 4)", x.place(1, 11, 4), 4);
        int[] rings = {5, 2, 3, 1};
        int[] turns = {4, 5, 5, 11};
        int[] amounts = {3, 2, 1, 4};
        for (int p = 0; p < 4; p++) {
            due("ring of " + p, x.at(p, 0), rings[p]);
            due("turn of " + p, x.at(p, 1), turns[p]);
            due("amount of " + p, x.at(p, 2), amounts[p]);
        }
        x.rock(4, 4, true);
        due("on a rock", x.place(4, 4, 1), NONE);
        due("none on a rock", x.place(4, 4, 0), NONE);
        x.place(1, 0, 1);
        x.place(1, 1, 1);
        due("the seventh", x.place(1, 2, 1), 7);
        due("an eighth", x.place(1, 3, 1), NONE);
        due("another amount of one of seven", x.place(1, 2, 9), 7);
        due("one is none any more", x.place(2, 5, 0), 6);
        due("again", x.place(2, 5, 0), NONE);
        due("who moves up", x.at(4, 0), 3);
        due("its amount", x.at(4, 2), 1);
        due("count(7)", x.count(7), 1 + 1 + 9 + 3 + 1 + 4);
    }

    private static void rock() {
        StreamTree x = new StreamTree();
        int[][] others = {{0, 0}, {6, 0}, {1, -1}, {1, 12}, {-1, 0}, {FAR, 0}, {1, FAR}, {DEEP, DEEP}};
        for (int[] o : others) {
            due("rock(" + o[0] + ", " + o[1] + ", true)", x.rock(o[0], o[1], true), false);
            due("rock(" + o[0] + ", " + o[1] + ", false)", x.rock(o[0], o[1], false), false);
        }
        due("none that is none", x.rock(5, 11, false), false);
        due("rock(5, 11, true)", x.rock(5, 11, true), true);
        due("again", x.rock(5, 11, true), false);
        due("count(3)", x.count(3), 1);
        due("rock(5, 11, false)", x.rock(5, 11, false), true);
        due("again", x.rock(5, 11, false), false);
        due("count(3)", x.count(3), 0);
        x.place(5, 11, 1);
        due("where a place is", x.rock(5, 11, true), false);
        due("where a place is, none", x.rock(5, 11, false), false);
        x.place(5, 11, 0);
        due("where a place was", x.rock(5, 11, true), true);
    }

    private static void set() {
        StreamTree x = new StreamTree();
        int[] was = {10, 4, 3};
        int[] low = {1, 0, 0};
        int[] high = {99, 40, 6};
        for (int what = 0; what < 3; what++) {
            due("set(" + what + ", low)", x.set(what, low[what]), was[what]);
            due("set(" + what + ", high)", x.set(what, high[what]), low[what]);
            due("set(" + what + ", below)", x.set(what, low[what] - 1), NONE);
            due("set(" + what + ", above)", x.set(what, high[what] + 1), NONE);
            due("set(" + what + ", far)", x.set(what, FAR), NONE);
            due("it stays", x.count(4 + what), high[what]);
        }
        due("set(-1, 1)", x.set(-1, 1), NONE);
        due("set(3, 1)", x.set(3, 1), NONE);
        due("set(" + DEEP + ", 1)", x.set(DEEP, 1), NONE);
        // What is drawn follows at once.
        x.place(2, 0, 5);
        due("ink(1)", x.ink(1), 20 * (99 + 5));
        x.set(0, 1);
        due("ink(1)", x.ink(1), 20 * (1 + 5));
        due("ink(4)", x.ink(4), 20 * (1 + 5));
    }

    private static void at() {
        StreamTree x = new StreamTree();
        dueThrows(x, 0, 0);
        dueThrows(x, -1, 0);
        x.place(4, 9, 77);
        due("at(0, 0)", x.at(0, 0), 4);
        due("at(0, 1)", x.at(0, 1), 9);
        due("at(0, 2)", x.at(0, 2), 77);
        dueThrows(x, 0, 3);
        dueThrows(x, 0, -1);
        dueThrows(x, 1, 0);
        dueThrows(x, 6, 0);
        dueThrows(x, 7, 0);
        dueThrows(x, FAR, DEEP);
        dueThrows(x, DEEP, FAR);
    }

    private static void ink() {
        StreamTree x = new StreamTree();
        for (int manner = 0; manner <= 4; manner++) {
            due("ink(" + manner + ") without places", x.ink(manner), 0);
        }
        due("ink(-1)", x.ink(-1), NONE);
        due("ink(5)", x.ink(5), NONE);
        due("ink(" + DEEP + ")", x.ink(DEEP), NONE);
        // Two in line: what goes together by a step is drawn once.
        StreamTree two = told("chart 3 8;place 3 0 20;place 2 0 5");
        due("ink(0)", two.ink(0), 30 * (10 + 20) + 20 * (10 + 5));
        for (int manner = 1; manner <= 4; manner++) {
            due("ink(" + manner + ")", two.ink(manner), 10 * (10 + 20) + 20 * (10 + 25));
        }
        // A rock ahead of the one: straight no longer, the others bend once.
        two.rock(1, 0, true);
        due("ink(1) with a rock", two.ink(1), NO_TREE);
        due("ink(2) with a rock", two.ink(2), 10 * 30 + 14 * 35 + 10 * 35);
        due("ink(3) with a rock", two.ink(3), 10 * 30 + 14 * 35 + 10 * 35);
        due("ink(4) with a rock", two.ink(4), 10 * 30 + 14 * 35 + 10 * 35);
        due("ink(0) with a rock", two.ink(0), 34 * 30 + 24 * 15);
        // Shut in: no tree of any manner.
        StreamTree shut = told("chart 3 8;place 3 0 20;place 3 4 5;rocks 2 7 3");
        for (int manner = 0; manner <= 4; manner++) {
            due("ink(" + manner + ") shut in", shut.ink(manner), NO_TREE);
        }
        due("ink(5) shut in", shut.ink(5), NONE);
        // LEAN can run into rocks where another way is open.
        StreamTree dead = told("chart 4 8;place 4 0 20;rocks 2 7 3");
        due("ink(2) at a dead end", dead.ink(2), NO_TREE);
        due("ink(3) at a dead end", dead.ink(3), NO_TREE);
        due("ink(4) round it", dead.ink(4), (14 + 14 + 10 + 10) * 30);
    }

    private static void lean() {
        // The only one goes straight on.
        due("the only one", told("chart 5 12;place 5 3 9").drawn(2, 0), 0);
        // Beyond REACH straight on, within it both bend to each other's side.
        StreamTree far = told("chart 5 12;place 5 0 9;place 5 4 9");
        due("4 away, REACH 3", far.step(2, 5, 0), 0);
        far.set(2, 4);
        due("4 away, REACH 4, the left one", far.step(2, 5, 0), 2);
        due("4 away, REACH 4, the right one", far.step(2, 5, 4), 1);
        due("they meet", far.join(2, 0, 0), 3);
        due("they meet at", far.join(2, 0, 1), 2);
        // Side by side: that of less WIDTH bends.
        StreamTree less = told("chart 2 8;place 2 3 4;place 2 4 5");
        due("less, to the right", less.step(2, 2, 3), 2);
        due("more, straight", less.step(2, 2, 4), 0);
        less.place(2, 3, 6);
        due("more, straight", less.step(2, 2, 3), 0);
        due("less, to the left", less.step(2, 2, 4), 1);
        less.place(2, 3, 5);
        due("like, the other one to its right", less.step(2, 2, 3), 2);
        due("like, the other one to its left", less.step(2, 2, 4), 0);
        // Round behind the last turn.
        StreamTree round = told("chart 2 8;place 2 7 5;place 2 0 5");
        due("like, round", round.step(2, 2, 7), 2);
        due("like, round, straight", round.step(2, 2, 0), 0);
        // As far to both sides: that to the right.
        StreamTree mid = told("chart 3 12;place 3 2 5;place 3 4 5;place 3 6 5");
        due("the middle one", mid.step(2, 3, 4), 2);
        due("the left one", mid.step(2, 3, 2), 2);
        due("the right one", mid.step(2, 3, 6), 1);
        StreamTree half = told("chart 3 6;place 3 0 5;place 3 3 5");
        due("one half round", half.step(2, 3, 0), 2);
        due("one half round", half.step(2, 3, 3), 2);
        half.set(2, 2);
        due("one half round beyond REACH", half.step(2, 3, 0), 0);
        half.set(2, 0);
        half.place(3, 1, 5);
        due("REACH 0", half.step(2, 3, 0), 0);
        leanAtRocks();
    }

    private static void leanAtRocks() {
        String near = "chart 3 12;place 3 2 5;place 3 4 5";
        StreamTree x = told(near + ";rocks 2 3 1");
        due("the wanted one is a rock: straight", x.step(2, 3, 2), 0);
        due("the wanted one is a rock: straight", x.step(2, 3, 4), 0);
        x.rock(2, 4, true);
        due("straight is one too, left was it: right", x.step(2, 3, 4), 2);
        x.rock(2, 5, true);
        due("all are", x.step(2, 3, 4), NO_TREE);
        StreamTree y = told("chart 2 8;place 2 3 5;rocks 1 3 1");
        due("straight is a rock: left", y.step(2, 2, 3), 1);
        y.rock(1, 2, true);
        due("left is one too: right", y.step(2, 2, 3), 2);
        y.rock(1, 4, true);
        due("all are", y.step(2, 2, 3), NO_TREE);
    }

    private static void straightened() {
        // Of ring 5, (5,4) leans to (5,7), so it comes to (4,5); there (4,3) is nearer: it bends back to (3,4).
        String told = "chart 5 12;place 5 4 5;place 5 7 5;place 4 3 5;rocks 4 6 2";
        StreamTree x = told(told);
        due("LEAN bends", x.step(2, 5, 4), 2);
        due("and back", x.step(2, 4, 5), 1);
        due("to what comes there", x.step(2, 4, 3), 2);
        due("another one goes right", x.step(2, 5, 7), 2);
        due("STRAIGHTENED goes straight", x.step(3, 5, 4), 0);
        due("between", x.step(3, 4, 4), 0);
        due("what comes between", x.width(3, 4, 4), 5);
        due("what was beside", x.width(3, 4, 5), 0);
        due("no step from there", x.step(3, 4, 5), NONE);
        due("its way", x.way(3, 1, 4), 4);
        due("two bends less", x.drawn(3, 0), x.drawn(2, 0) - 2);
        due("less ink", x.ink(3), x.ink(2) - 2 * 4 * 15);
        due("the joins stay", x.join(3, 0, 0), 3);
        due("LEAN stays", x.step(2, 5, 4), 2);
        due("a rock between", told(told + ";rocks 4 4 1").step(3, 5, 4), 2);
        due("a place beside", told(told + ";place 4 5 5").step(3, 5, 4), 2);
        StreamTree held = told(told + ";place 4 4 9");
        due("something comes between, LEAN", held.step(2, 4, 5), 1);
        due("something comes between", held.step(3, 5, 4), 2);
    }

    private static void width() {
        StreamTree x = told("chart 3 8;place 3 0 20;place 2 0 5;place 3 4 7");
        due("a place", x.width(1, 3, 0), 20);
        due("a place and a step", x.width(1, 2, 0), 25);
        due("steps", x.width(1, 1, 0), 25);
        due("the source", x.width(1, 0, 0), 32);
        due("nothing", x.width(1, 3, 1), 0);
        x.rock(3, 1, true);
        due("a rock", x.width(1, 3, 1), 0);
        int[][] others = {{0, 1, 0}, {5, 1, 0}, {-1, 1, 0}, {1, 0, 1}, {1, 0, -1}, {1, 4, 0}, {1, -1, 0}, {1, 1, 8},
            {1, 1, -1}, {FAR, 1, 1}, {1, FAR, 1}, {1, 1, FAR}, {DEEP, DEEP, DEEP}};
        for (int[] o : others) {
            String call = "(" + o[0] + ", " + o[1] + ", " + o[2] + ")";
            due("width" + call, x.width(o[0], o[1], o[2]), NONE);
            due("step" + call, x.step(o[0], o[1], o[2]), NONE);
            due("borne" + call, x.borne(o[0], o[1], o[2]), NONE);
        }
        x.rock(1, 0, true);
        due("no tree", x.width(1, 3, 1), NO_TREE);
        due("no tree, the source", x.width(1, 0, 0), NO_TREE);
        for (int[] o : others) {
            due("NONE goes ahead of -2", x.width(o[0], o[1], o[2]), NONE);
        }
    }

    private static void step() {
        StreamTree x = told("chart 3 8;place 3 0 20;place 3 2 20");
        due("to the right", x.step(4, 3, 0) == 2 || x.step(2, 3, 0) == 2, true);
        due("LEAN to the right", x.step(2, 3, 0), 2);
        due("LEAN to the left", x.step(2, 3, 2), 1);
        due("straight", x.step(2, 2, 1), 0);
        due("to the source", x.step(2, 1, 1), 0);
        due("nothing comes", x.step(2, 2, 0), NONE);
        due("the source", x.step(2, 0, 0), NONE);
        x.rock(2, 0, true);
        due("no tree, of the source", x.step(1, 0, 0), NO_TREE);
        due("no tree, nothing comes", x.step(1, 3, 5), NO_TREE);
        due("no tree, others", x.step(1, 0, 1), NONE);
        due("no tree, others", x.step(5, 0, 0), NONE);
        // Round, both ways.
        StreamTree round = told("chart 2 6;place 2 0 5;rocks 1 0 2");
        due("left round", round.step(4, 2, 0), 1);
        due("left round", round.way(4, 0, 1), 5);
        StreamTree back = told("chart 2 6;place 2 5 5;rocks 1 4 2");
        due("right round", back.step(4, 2, 5), 2);
        due("right round", back.way(4, 0, 1), 0);
    }

    private static void join() {
        StreamTree x = told("chart 3 8;place 3 0 20;place 2 0 5;place 3 4 7;place 2 2 1");
        due("how many", x.join(1, NONE, 0), 2);
        due("the outmost, RING", x.join(1, 0, 0), 2);
        due("the outmost, TURN", x.join(1, 0, 1), 0);
        due("a place counts as one", x.join(1, 0, 2), 2);
        due("the source, RING", x.join(1, 1, 0), 0);
        due("the source, TURN", x.join(1, 1, 1), 0);
        due("the source, how many", x.join(1, 1, 2), 3);
        int[][] others = {{0, 0, 0}, {5, 0, 0}, {1, -2, 0}, {1, 0, 3}, {1, 0, -1}, {FAR, NONE, 0}, {1, DEEP, 0},
            {1, 0, DEEP}, {1, NONE, 3}, {1, NONE, -1}, {1, NONE, FAR}, {1, NONE, DEEP}};
        for (int[] o : others) {
            due("join(" + o[0] + ", " + o[1] + ", " + o[2] + ")", x.join(o[0], o[1], o[2]), NONE);
        }
        due("none such", x.join(1, 2, 0), NONE);
        due("none such", x.join(1, FAR, 0), NONE);
        // Of one ring by turns.
        StreamTree y = told("chart 2 8;place 1 6 1;place 2 6 1;place 1 2 1;place 2 2 1;place 2 1 1;rocks 1 1 1");
        due("how many", y.join(4, NONE, 0), 3);
        due("the first by turns", y.join(4, 0, 1), 2);
        due("how many come", y.join(4, 0, 2), 3);
        due("the second by turns", y.join(4, 1, 1), 6);
        due("how many come", y.join(4, 1, 2), 2);
        due("no tree, how many", y.join(1, NONE, 0), NO_TREE);
        due("no tree, none such", y.join(1, 9, 0), NO_TREE);
        due("no tree, others", y.join(1, 0, 3), NONE);
        due("no tree, others", y.join(1, NONE, 3), NONE);
        due("no tree, others", y.join(1, NONE, -1), NONE);
        due("how many, by each what", y.join(4, NONE, 1), 3);
        due("how many, by each what", y.join(4, NONE, 2), 3);
        due("no tree, others", y.join(0, 0, 0), NONE);
        for (int manner = 1; manner <= 4; manner++) {
            due("without places", new StreamTree().join(manner, NONE, 0), 0);
            due("without places, others", new StreamTree().join(manner, NONE, 3), NONE);
        }
    }

    private static void drawn() {
        StreamTree x = told("chart 3 8;place 3 0 20;place 3 2 20;place 3 5 3;reach 2");
        int[] of = {2, 0, 7, 3, 40};
        for (int what = 0; what < 5; what++) {
            due("drawn(2, " + what + ")", x.drawn(2, what), of[what]);
        }
        int[] straight = {0, 0, 9, 3, 20};
        for (int what = 0; what < 5; what++) {
            due("drawn(1, " + what + ")", x.drawn(1, what), straight[what]);
        }
        int[][] others = {{0, 0}, {5, 0}, {1, -1}, {1, 5}, {DEEP, 0}, {1, FAR}};
        for (int[] o : others) {
            due("drawn(" + o[0] + ", " + o[1] + ")", x.drawn(o[0], o[1]), NONE);
        }
        x.rock(1, 5, true);
        due("no tree", x.drawn(1, 0), NO_TREE);
        due("no tree, others", x.drawn(1, 5), NONE);
        for (int what = 0; what < 5; what++) {
            due("without places", new StreamTree().drawn(4, what), 0);
        }
    }

    private static void way() {
        StreamTree x = told("chart 4 8;place 4 0 20;place 4 2 20;place 2 5 3;reach 2");
        int[] turns = {0, 1, 1, 1, 0};
        for (int ring = 0; ring <= 4; ring++) {
            due("way(2, 0, " + ring + ")", x.way(2, 0, ring), turns[ring]);
        }
        due("its own ring", x.way(1, 2, 2), 5);
        due("further out", x.way(1, 2, 3), NONE);
        due("the source", x.way(1, 2, 0), 0);
        int[][] others = {{0, 0, 0}, {5, 0, 0}, {1, -1, 0}, {1, 3, 0}, {1, 0, -1}, {1, 0, 5}, {DEEP, 0, 0}, {1, FAR, 0},
            {1, 0, FAR}};
        for (int[] o : others) {
            due("way(" + o[0] + ", " + o[1] + ", " + o[2] + ")", x.way(o[0], o[1], o[2]), NONE);
        }
        x.rock(1, 5, true);
        due("no tree", x.way(1, 0, 0), NO_TREE);
        due("no tree, further out", x.way(1, 2, 3), NO_TREE);
        due("no tree, others", x.way(1, 2, 5), NONE);
        due("no tree, others", x.way(1, 3, 1), NONE);
    }

    private static void borne() {
        StreamTree x = told("chart 3 8;place 3 0 20;place 2 0 5;place 3 4 7");
        due("by turns, then by rings", x.borne(1, 2, 0), 3);
        due("the outer one", x.borne(1, 3, 0), 2);
        due("both on", x.borne(1, 1, 0), 3);
        due("another", x.borne(1, 3, 4), 4);
        due("nothing comes", x.borne(1, 3, 5), 0);
        due("nothing comes further in", x.borne(1, 1, 7), 0);
        x.rock(3, 5, true);
        due("a rock", x.borne(1, 3, 5), 0);
        due("the source", x.borne(1, 0, 0), NONE);
        x.rock(1, 4, true);
        due("no tree", x.borne(1, 3, 0), NO_TREE);
        due("no tree, nothing comes", x.borne(1, 3, 5), NO_TREE);
        due("no tree, others", x.borne(1, 4, 0), NONE);
        due("no tree, the source", x.borne(1, 0, 0), NONE);
        due("round the rock", x.borne(4, 1, 3), 4);
        due("a rock that is gone round", x.borne(4, 1, 4), 0);
        for (int manner = 1; manner <= 4; manner++) {
            due("without places", new StreamTree().borne(manner, 1, 0), 0);
            due("without places, the source", new StreamTree().borne(manner, 0, 0), NONE);
        }
    }

    private static void alone() {
        StreamTree x = told("chart 4 8;place 4 0 20;place 1 4 2;rocks 2 0 1");
        // Out and straight on: one bend is enough.
        due("alone(0)", x.alone(0), (10 + 14 + 10 + 10) * 30);
        due("alone(1)", x.alone(1), 10 * 12);
        due("ink(0)", x.ink(0), 44 * 30 + 120);
        due("alone(2)", x.alone(2), NONE);
        due("alone(-1)", x.alone(-1), NONE);
        due("alone(" + FAR + ")", x.alone(FAR), NONE);
        due("alone(" + DEEP + ")", x.alone(DEEP), NONE);
        x.rock(3, 7, true);
        x.rock(3, 0, true);
        x.rock(3, 1, true);
        due("none", x.alone(0), NO_TREE);
        due("the other one has", x.alone(1), 120);
    }

    private static void costs() {
        StreamTree x = told("chart 3 8;place 3 0 20;place 2 0 5;place 3 4 7;rocks 2 2 1");
        due("costs(0)", x.costs(0), 5 * 20);
        due("costs(1)", x.costs(1), 10 * 30 + 20 * (10 + 25) - 20 * 15);
        due("costs(2)", x.costs(2), 30 * 17);
        due("costs(3)", x.costs(3), NONE);
        due("costs(-1)", x.costs(-1), NONE);
        due("costs(" + FAR + ")", x.costs(FAR), NONE);
        x.place(3, 2, 9);
        x.rock(2, 1, true);
        x.rock(2, 3, true);
        due("one that is shut in", x.costs(2), NO_TREE);
        due("another one", x.costs(0), NO_TREE);
        due("no such one", x.costs(4), NONE);
    }

    private static void bars() {
        StreamTree x = told("chart 3 8;place 3 0 20;rocks 2 0 1;rocks 1 4 1");
        due("in the way", x.bars(2, 0), 4 * 30);
        due("the chart is as it was", x.ink(4), 34 * 30);
        due("the bests are as they were", x.best(0, 0, 1), 34 * 30);
        due("not in the way", x.bars(1, 4), 0);
        due("it is still one", x.count(3), 2);
        int[][] others = {{1, 0}, {0, 0}, {4, 0}, {-1, 0}, {2, 8}, {2, -1}, {FAR, 0}, {2, DEEP}, {3, 0}};
        for (int[] o : others) {
            due("bars(" + o[0] + ", " + o[1] + ")", x.bars(o[0], o[1]), NONE);
        }
        x.rock(2, 7, true);
        x.rock(2, 1, true);
        due("no tree", x.bars(2, 0), NO_TREE);
        due("no tree, no rock", x.bars(1, 0), NONE);
        x.place(3, 0, 0);
        due("without places", x.bars(2, 0), 0);
    }

    private static void more() {
        StreamTree x = told("chart 3 8;place 3 0 20;place 3 4 7");
        due("one of it", x.more(2, 0, 5, 0), 20 * 5);
        due("RING", x.more(2, 0, 5, 1), 2);
        due("TURN", x.more(2, 0, 5, 2), 0);
        // Beside it: a bend of its own, and on as it goes.
        due("beside", x.more(2, 1, 1, 0), 14 * 11 + 10);
        due("RING", x.more(2, 1, 1, 1), 1);
        // Between both, as far to each: the least TURN.
        due("between", x.more(3, 2, 1, 0), 28 * 11 + 10);
        due("RING", x.more(3, 2, 1, 1), 1);
        due("TURN", x.more(3, 2, 1, 2), 0);
        due("on the other side", x.more(3, 6, 1, 0), 28 * 11 + 10);
        due("TURN", x.more(3, 6, 1, 2), 0);
        // 14 * 25 + 10 * 15 by the tree, 20 * 25 by itself: the inmost.
        due("like ones", x.more(2, 1, 15, 0), 500);
        due("RING", x.more(2, 1, 15, 1), 0);
        due("TURN", x.more(2, 1, 15, 2), 0);
        due("RING with one less", x.more(2, 1, 14, 1), 1);
        x.set(1, 40);
        due("straight to the source", x.more(2, 2, 99, 0), 20 * 109);
        due("RING", x.more(2, 2, 99, 1), 0);
        due("TURN", x.more(2, 2, 99, 2), 0);
        int[][] others = {{0, 0, 1, 0}, {4, 0, 1, 0}, {1, 8, 1, 0}, {1, -1, 1, 0}, {1, 1, 0, 0}, {1, 1, 100, 0},
            {1, 1, 1, 3}, {1, 1, 1, -1}, {FAR, 1, 1, 1}, {1, FAR, 1, 1}, {1, 1, FAR, 1}, {1, 1, 1, FAR},
            {DEEP, DEEP, DEEP, DEEP}};
        for (int[] o : others) {
            due("more(" + o[0] + ", " + o[1] + ", " + o[2] + ", " + o[3] + ")", x.more(o[0], o[1], o[2], o[3]), NONE);
        }
        x.rock(2, 2, true);
        due("a rock", x.more(2, 2, 1, 0), NONE);
        x.rock(2, 1, true);
        x.rock(2, 3, true);
        due("no way", x.more(3, 2, 1, 0), NO_TREE);
        due("no way, RING", x.more(3, 2, 1, 1), NO_TREE);
        x.rock(2, 5, true);
        x.rock(2, 4, true);
        due("no tree", x.more(1, 1, 1, 0), NO_TREE);
        due("no tree, one of others", x.more(1, 1, 0, 0), NONE);
        due("no tree, a rock", x.more(2, 4, 1, 0), NONE);
        due("without places", new StreamTree().more(5, 3, 1, 0), 50 * 11);
        due("without places, RING", new StreamTree().more(5, 3, 1, 1), 0);
    }

    private static void best() {
        StreamTree x = told("chart 3 8;place 3 0 20;place 3 2 5;place 1 1 3");
        due("a place that is there", x.best(3, 0, 1), 0);
        due("one that is not there", x.best(3, 0, 4), NO_TREE);
        due("one step", x.best(2, 0, 1), 10 * 30);
        due("one bent step", x.best(2, 1, 1), 14 * 30);
        due("two", x.best(2, 1, 5), 14 * 30 + 14 * 15);
        due("two and the place there", x.best(1, 1, 7), 14 * 30 + 14 * 15 + 10 * 35);
        due("the source", x.best(0, 0, 2), 10 * 13);
        due("all", x.best(0, 0, 7), x.ink(4));
        int[][] others = {{0, 1, 1}, {0, -1, 1}, {4, 0, 1}, {-1, 0, 1}, {1, 8, 1}, {1, -1, 1}, {1, 1, 0}, {1, 1, 8},
            {1, 1, -1}, {FAR, 0, 1}, {1, FAR, 1}, {1, 1, FAR}, {1, 1, DEEP}};
        for (int[] o : others) {
            due("best(" + o[0] + ", " + o[1] + ", " + o[2] + ")", x.best(o[0], o[1], o[2]), NONE);
        }
        x.rock(2, 1, true);
        due("a rock", x.best(2, 1, 1), NONE);
        due("without places", new StreamTree().best(0, 0, 1), NONE);
        // There is no tree, but a best of those that have a way.
        StreamTree shut = told("chart 3 8;place 3 0 20;place 3 4 7;rocks 2 3 3");
        due("all", shut.best(0, 0, 3), NO_TREE);
        due("the one that has a way", shut.best(0, 0, 1), 30 * 30);
    }

    /** Of trees with like ink, that which the order of BEST finds. */
    private static void leastOfLikeOnes() {
        // A way round one rock by the left or by the right: from ring 1's least turn.
        StreamTree x = told("chart 2 8;place 2 3 5;rocks 1 3 1");
        due("by the least turn of ring 1", x.way(4, 0, 1), 2);
        // Bends cost nothing: at each cell the same turn is tried first.
        StreamTree free = told("chart 3 8;place 3 3 5;bend 0");
        due("the source takes the least turn", free.way(4, 0, 1), 1);
        due("that one takes what is left", free.way(4, 0, 2), 2);
        StreamTree two = told("chart 4 8;place 4 3 5;bend 0");
        due("the source takes the least turn", two.way(4, 0, 1), 0);
        StreamTree rock = told("chart 4 8;place 4 3 5;bend 0;rocks 1 6 4");
        due("ring 1", rock.way(4, 0, 1), 2);
        due("then the same turn ahead of one less, of one more", rock.way(4, 0, 2), 2);
        due("then one more: one less is no way", rock.way(4, 0, 3), 2);
    }

    private static void count() {
        StreamTree x = told("chart 3 8;place 3 0 20;place 2 0 5;rocks 1 4 3;base 11;bend 12;reach 1");
        x.feed(0, 0, 0, 0, 0);
        int[] of = {3, 8, 2, 3, 11, 12, 1, 25, 20, 20 * 11};
        for (int what = 0; what < of.length; what++) {
            due("count(" + what + ")", x.count(what), of[what]);
        }
        due("count(-1)", x.count(-1), NONE);
        due("count(10)", x.count(10), NONE);
        due("count(" + FAR + ")", x.count(FAR), NONE);
        due("count(" + DEEP + ")", x.count(DEEP), NONE);
        x.rock(1, 0, true);
        x.rock(1, 1, true);
        x.rock(1, 7, true);
        due("count(9) without a tree", x.count(9), NO_TREE);
    }

    private static void callAll() {
        promise = 1;
        newObject();
        promise = 2;
        feed();
        promise = 3;
        text();
        textTokens();
        textFaults();
        promise = 4;
        chart();
        promise = 5;
        place();
        promise = 6;
        rock();
        promise = 7;
        set();
        promise = 8;
        at();
        promise = 9;
        ink();
        promise = 10;
        width();
        promise = 11;
        step();
        lean();
        straightened();
        leastOfLikeOnes();
        promise = 12;
        join();
        promise = 13;
        drawn();
        promise = 14;
        way();
        promise = 15;
        borne();
        promise = 16;
        alone();
        promise = 17;
        costs();
        promise = 18;
        bars();
        promise = 19;
        more();
        promise = 20;
        best();
        promise = 21;
        count();
    }

    public static void main(String[] args) {
        callAll();
        System.out.println(wrong == 0 ? "all promises are kept" : wrong + " answers are not as due");
        if (wrong != 0) {
            System.exit(1);
        }
    }
}
