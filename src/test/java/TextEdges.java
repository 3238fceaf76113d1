/** The bounds of the TEXT of part 1 and of promises 2 and 3: the tape, its tokens, its lines, the faults. */
public final class TextEdges {
    private static final int NONE = Due.NONE;
    private static final int FAR = Due.FAR;
    private static final int DEEP = Due.DEEP;
    private static final String SEVEN =
        "chart 2 6;place 1 0 1;place 1 1 1;place 1 2 1;place 1 3 1;place 1 4 1;place 1 5 1;place 2 0 1";

    private static void tape() {
        Due.sentence("part 1", "A TEXT (THE TAPE has 500 bytes");
        String longest = "chart 9 24" + " ".repeat(483) + ";base 8";
        StreamTree x = new StreamTree();
        Due.feed(x, longest);
        Due.is("bytes on it", x.count(8), 500);
        Due.is("all 500 are read", x.text(500), 0);
        Due.is("the last byte counts", x.count(4), 8);
        Due.textIs(longest.substring(0, 499) + "?", Due.fault(499, 1));
        Due.textIs("chart 9 24" + " ".repeat(489) + ";", Due.fault(500, 1));
        Due.textIs("\n".repeat(500), Due.fault(500, 1));
    }

    private static void feed() {
        Due.sentence("promise 2", "Twenty bytes come behind THE TAPE, of each number the highest first");
        StreamTree x = new StreamTree();
        // "chart 3 7;base 12 ; " and then "bend 13;reach 1     ": each byte at its place.
        Due.is("how many it has", x.feed(0x63686172, 0x74203320, 0x373b6261, 0x73652031, 0x32203b20), 20);
        Due.is("how many it has", x.feed(0x62656e64, 0x2031333b, 0x72656163, 0x68203120, 0x20202020), 40);
        Due.is("it is so read", x.text(40), 0);
        int[] of = {3, 7, 0, 0, 12, 13, 1};
        for (int what = 0; what < of.length; what++) {
            Due.is("count(" + what + ")", x.count(what), of[what]);
        }
        // A byte of 128 and more is one byte and no sign: the number's first is read as the highest.
        for (int b = 128; b < 256; b += 127) {
            StreamTree y = new StreamTree();
            y.feed(0x63686172, 0x74203320, 0x37000000 | b << 16, 0, 0);
            Due.is("byte " + b, y.text(10), Due.fault(9, 1));
            StreamTree z = new StreamTree();
            z.feed(b << 24, 0x20202020, 0x20202020, 0x20202020, 0x20202020);
            Due.is("byte " + b + " first", z.text(20), Due.fault(0, 1));
        }

        Due.sentence("promise 2", "how many it has; NONE, and none come, if it would have more than 500");
        StreamTree full = new StreamTree();
        String text = "chart 4 8;reach 5;" + " ".repeat(480) + "\n";
        Due.feed(full, text.substring(0, 480));
        Due.is("480 bytes", full.count(8), 480);
        Due.is("the last twenty", full.feed(0x20202020, 0x20202020, 0x20202020, 0x20626173, 0x65203737), 500);
        Due.stays(full, () -> {
            Due.is("more than 500", full.feed(0x3f3f3f3f, 0x3f3f3f3f, 0x3f3f3f3f, 0x3f3f3f3f, 0x3f3f3f3f), NONE);
            Due.is("and again", full.feed(0, 0, 0, 0, 0), NONE);
            Due.is("and again", full.feed(DEEP, FAR, -1, 0, 1), NONE);
        });
        Due.is("none came", full.text(500), 0);
        Due.is("what stood first", full.count(6), 5);
        Due.is("what stood last", full.count(4), 77);
        Due.is("it is empty then", full.feed(0, 0, 0, 0, 0), 20);
        for (int k = 2; k <= 25; k++) {
            Due.is("feed " + k, full.feed(DEEP, FAR, -1, 0, 1), 20 * k);
        }
        Due.is("full anew", full.feed(0, 0, 0, 0, 0), NONE);
    }

    private static void reading() {
        Due.sentence("promise 3", "The first n bytes of THE TAPE (it is empty then) are a TEXT");
        StreamTree x = new StreamTree();
        Due.feed(x, "chart 3 8;base 77;bend 7");
        Due.is("40 bytes", x.count(8), 40);
        Due.is("but 17 are read", x.text(17), 0);
        Due.is("these", x.count(4), 77);
        Due.is("not what stands behind", x.count(5), 4);
        Due.is("all of it is gone", x.count(8), 0);
        Due.is("none is left for the next", x.text(1), NONE);
        Due.is("no byte of none", x.text(0), Due.fault(0, 1));
        Due.is("a word cut short", cut("chart 3 8;base 77", 13), Due.fault(10, 1));
        Due.is("a number cut short", cut("chart 3 8;base 77", 16), 0);
        Due.is("bytes of a text before are not read", readTwice(), Due.fault(5, 1));

        Due.sentence("promise 3", "all is as it tells, else as at first: how many PLACES");
        StreamTree y = Due.told("chart 9 24;place 9 23 99;rocks 1 0 24;base 99;bend 40;reach 6");
        Due.is("no places", Due.read(y, "chart 2 6"), 0);
        int[] first = {2, 6, 0, 0, 10, 4, 3, 0, 0, 0};
        for (int what = 0; what < first.length; what++) {
            Due.is("count(" + what + ") as at first", y.count(what), first[what]);
        }
        y.chart(9, 24);
        Due.is("no rock is left over", Due.rocksOf(y).length(), 0);
        Due.is("one", Due.read(y, "chart 2 6;place 1 0 1"), 1);
        Due.is("seven", Due.read(y, SEVEN), 7);
        for (int manner = 1; manner <= 4; manner++) {
            Due.is("ink(" + manner + ")", y.ink(manner), 6 * 10 * 11 + 10 * 11 + 10);
        }
        Due.read(y, "chart 2 6;place 2 0 5");
        for (int manner = 0; manner <= 4; manner++) {
            Due.is("drawings follow, ink(" + manner + ")", y.ink(manner), 20 * 15);
        }

        Due.sentence("promise 3", "NONE: it has not so many, n is below 0 (THE TAPE stays)");
        StreamTree z = Due.told("chart 2 6;place 1 0 1;rocks 2 2 2;base 8");
        Due.is("one of an empty tape", z.text(1), NONE);
        Due.feed(z, "chart 3 8;place 1 1 1");
        Due.stays(z, () -> {
            for (int n : new int[] {41, -1, 500, 501, 1000, FAR, DEEP}) {
                Due.is("text(" + n + ")", z.text(n), NONE);
            }
        });
        Due.is("40 bytes stay", z.count(8), 40);
        Due.is("all it has", z.text(40), 1);
        Due.is("they were the same bytes", z.count(0), 3);

        Due.sentence("promise 3", "-2 less (8 * place + kind): a FAULT (all else stays)");
        StreamTree w = Due.told("chart 2 6;place 1 0 1;rocks 2 2 2;base 8;bend 9;reach 1");
        Due.stays(w, () -> {
            Due.is("kind 1", Due.read(w, "chart 9 24;base 1;place 1 1 1;rocks 1 2 1;bend"), -2 - (8 * 46 + 1));
            Due.is("kind 2", Due.read(w, "chart 9 24;base 1;place 1 1 1;rocks 1 2 1;bend 41"), -2 - (8 * 47 + 2));
            Due.is("kind 3", Due.read(w, "chart 9 24;base 1;place 1 1 1;rocks 1 0 2"), -2 - (8 * 40 + 3));
            Due.is("kind 4", Due.read(w, SEVEN + ";place 2 1 1"), -2 - (8 * 94 + 4));
            Due.is("the least", Due.read(w, "x"), -3);
            Due.is("THE TAPE is empty", w.count(8), 0);
        });
        Due.is("nothing of a text with a fault is left", Due.read(w, "chart 9 24"), 0);
        Due.is("no rocks", w.count(3), 0);
        Due.is("base", w.count(4), 10);
        Due.is("the greatest place", Due.read(w, "chart 9 24" + " ".repeat(489) + ";"), -2 - (8 * 500 + 1));
    }

    private static int cut(String text, int n) {
        StreamTree x = new StreamTree();
        Due.feed(x, text);
        return x.text(n);
    }

    private static int readTwice() {
        StreamTree x = new StreamTree();
        Due.read(x, "chart 3 8;base 77");
        return Due.read(x, "chart");
    }

    private static void blanks() {
        Due.sentence("part 1", "blanks, 32, 10, part TOKENS and mean nothing else");
        Due.textIs("\n \nchart\n3 \n 8\n;\nplace\n1\n1\n1 \n", 1);
        Due.textIs("chart3 8;place1 1 1;rocks2 2 2;base1;bend0;reach0", 1);
        Due.textIs("chart 3 8 ; place 1 1 1 ; base 1", 1);
        Due.textIs("cha rt 3 8", Due.fault(0, 1));
        Due.textIs("chart 3 1 2", Due.fault(8, 2));
        Due.textIs("chart 38 8", Due.fault(6, 2));
        Due.textIs("chart 3 8;base 1 0", Due.fault(17, 1));
        Due.textIs("chart 3 8;base1\n0", Due.fault(16, 1));
    }

    /** Each byte there is, where a text could end or go on. */
    private static void bytes() {
        Due.sentence("part 1", "1 the first byte that begins no TOKEN");
        for (int b = 0; b < 256; b++) {
            char c = (char) b;
            boolean blank = b == 32 || b == 10;
            Due.textIs("chart 3 8" + c + "\n", blank ? 0 : c == ';' ? Due.fault(11, 1)
                : c >= '0' && c <= '9' ? Due.fault(8, 2) : Due.fault(9, 1));
            Due.textIs("chart 3 8;" + c + "base 9", blank ? 0 : Due.fault(10, 1));
            Due.textIs("chart 3 8;base 9" + c, blank || c >= '0' && c <= '9' ? 0
                : c == ';' ? Due.fault(17, 1) : Due.fault(16, 1));
            Due.textIs(c + "chart 3 8", blank ? 0 : Due.fault(0, 1));
        }
    }

    private static void tokens() {
        Due.sentence("part 1", "TOKENS: words of small letters that stand together");
        for (String word : new String[] {"place", "rocks", "base", "bend", "reach"}) {
            String numbers = word.equals("place") || word.equals("rocks") ? " 1 1 1" : " 1";
            Due.textIs("chart 2 6;" + word + numbers, word.equals("place") ? 1 : 0);
            Due.textIs("chart 2 6;" + word.substring(1) + numbers, Due.fault(10, 1));
            Due.textIs("chart 2 6;" + word.substring(0, word.length() - 1) + numbers, Due.fault(10, 1));
            Due.textIs("chart 2 6;" + word + "s" + numbers, Due.fault(10, 1));
            Due.textIs("chart 2 6;a" + word + numbers, Due.fault(10, 1));
            Due.textIs("chart 2 6;" + word.toUpperCase() + numbers, Due.fault(10, 1));
            Due.textIs("chart 2 6;" + word.substring(0, 2) + " " + word.substring(2) + numbers, Due.fault(10, 1));
            for (int k = 0; k < word.length(); k++) {
                String other = word.substring(0, k) + 'z' + word.substring(k + 1);
                Due.textIs("chart 2 6;" + other + numbers, Due.fault(10, 1));
            }
            for (char c = 'a'; c <= 'z'; c++) {
                Due.textIs("chart 2 6;" + word + c + numbers, Due.fault(10, 1));
            }
        }
        for (int k = 0; k < 5; k++) {
            Due.textIs("chart".substring(0, k) + "z" + "chart".substring(k + 1) + " 2 6", Due.fault(0, 1));
        }
        Due.textIs("chartz 2 6", Due.fault(0, 1));
        Due.textIs("chart 2 6;chart 2 6", Due.fault(10, 1));
        Due.textIs("place 1 1 1", Due.fault(0, 1));
        Due.textIs("; chart 2 6", Due.fault(0, 1));
        Due.textIs("7", Due.fault(0, 1));
        Due.textIs("base 1", Due.fault(0, 1));

        Due.sentence("part 1", "NUMBERS: 1 to 3 digits that stand together");
        Due.textIs("chart 2 6;base 9", 0);
        Due.textIs("chart 2 6;base 09", 0);
        Due.textIs("chart 2 6;base 009", 0);
        Due.is("it is 9", Due.told("chart 2 6;base 009").count(4), 9);
        Due.is("it is 80", Due.told("chart 2 6;base 080").count(4), 80);
        Due.textIs("chart 2 6;base 0009", Due.fault(15, 1));
        Due.textIs("chart 2 6;base 1000", Due.fault(15, 1));
        Due.textIs("chart 2 6;base 99999999999999999999", Due.fault(15, 1));
        Due.textIs("chart 2 6;base 999", Due.fault(15, 2));
        Due.textIs("chart 2 6;base 000", Due.fault(15, 2));
        Due.textIs("chart 002 006;place 001 000 001", 1);
        Due.textIs("chart 0002 6", Due.fault(6, 1));
        Due.textIs("chart 2 0006", Due.fault(8, 1));
        Due.textIs("chart 2 6;place 0001 1 1", Due.fault(16, 1));
        Due.textIs("chart 2 6;place 1 0001 1", Due.fault(18, 1));
        Due.textIs("chart 2 6;place 1 1 0001", Due.fault(20, 1));
        Due.textIs("chart 2 6 1234 base 9", Due.fault(10, 1));
        Due.textIs("chart 2 6;1234 base 9", Due.fault(10, 1));
        Due.textIs("1234chart 2 6", Due.fault(0, 1));
        Due.textIs("chart 2 6;base -1", Due.fault(15, 1));
        Due.textIs("chart 2 6;base +1", Due.fault(15, 1));

        Due.sentence("part 1", "; alone");
        Due.textIs("chart 2 6;base 9;bend 1", 0);
        Due.textIs("chart 2 6;;base 9", Due.fault(10, 1));
        Due.textIs("chart 2 6; ;base 9", Due.fault(11, 1));
        Due.textIs("chart 2 6;base 9;;", Due.fault(17, 1));
        Due.textIs("chart 2 6;base 9;", Due.fault(17, 1));
    }

    private static void grammar() {
        Due.sentence("part 1", "chart NUMBER NUMBER (R, N) { ; LINE }");
        Due.textIs("chart 2 6", 0);
        Due.textIs("chart 9 24", 0);
        Due.textIs("chart 2 6;base 9", 0);
        Due.textIs("chart 2 6 base 9", Due.fault(10, 1));
        Due.textIs("chart 2 6 6", Due.fault(10, 1));
        Due.textIs("chart;", Due.fault(5, 1));
        Due.textIs("chart 2;", Due.fault(7, 1));
        Due.textIs("chart two 6", Due.fault(6, 1));
        Due.textIs("chart 2 six", Due.fault(8, 1));
        StringBuilder many = new StringBuilder("chart 2 6");
        for (int k = 0; k < 80; k++) {
            many.append(";bend").append(k % 10);
        }
        Due.textIs(many.toString(), 0);

        Due.sentence("part 1", "LINE: place NUMBER NUMBER NUMBER (RING, TURN, AMOUNT)");
        String[] heads = {"place", "place 1", "place 1 1"};
        for (String head : heads) {
            Due.textIs("chart 2 6;" + head, Due.fault(10 + head.length(), 1));
            Due.textIs("chart 2 6;" + head + ";base 1", Due.fault(10 + head.length(), 1));
            Due.textIs("chart 2 6;" + head + " x", Due.fault(11 + head.length(), 1));
        }
        Due.textIs("chart 2 6;place 1 1 1 1", Due.fault(22, 1));
        Due.textIs("chart 2 6;place 1 1 1", 1);
        StreamTree x = Due.told("chart 4 8;place 3 7 99");
        Due.is("RING", x.at(0, 0), 3);
        Due.is("TURN", x.at(0, 1), 7);
        Due.is("AMOUNT", x.at(0, 2), 99);

        Due.sentence("part 1", "| rocks NUMBER NUMBER NUMBER (a RING");
        for (String head : new String[] {"rocks", "rocks 1", "rocks 1 1"}) {
            Due.textIs("chart 2 6;" + head, Due.fault(10 + head.length(), 1));
            Due.textIs("chart 2 6;" + head + ";base 1", Due.fault(10 + head.length(), 1));
            Due.textIs("chart 2 6;" + head + " x", Due.fault(11 + head.length(), 1));
        }
        Due.textIs("chart 2 6;rocks 1 1 1 1", Due.fault(22, 1));

        Due.sentence("part 1", "| base NUMBER | bend NUMBER | reach NUMBER");
        for (String word : new String[] {"base", "bend", "reach"}) {
            int behind = 10 + word.length();
            Due.textIs("chart 2 6;" + word, Due.fault(behind, 1));
            Due.textIs("chart 2 6;" + word + ";base 1", Due.fault(behind, 1));
            Due.textIs("chart 2 6;" + word + " x", Due.fault(behind + 1, 1));
            Due.textIs("chart 2 6;" + word + " 1 1", Due.fault(behind + 3, 1));
        }

        Due.sentence("part 1", "(what is told last counts)");
        StreamTree y = Due.told("chart 2 6;base 99;bend 40;reach 6;reach 0;bend 0;base 1");
        Due.is("base", y.count(4), 1);
        Due.is("bend", y.count(5), 0);
        Due.is("reach", y.count(6), 0);
        StreamTree z = Due.told("chart 2 6;base 1;base 2;place 1 1 1;base 3;base 10");
        Due.is("base", z.count(4), 10);
    }

    private static void rockLines() {
        Due.sentence("part 1", "from a TURN so many CELLS, 1 to N, to the right, round");
        for (int n : new int[] {6, 24}) {
            int last = n - 1;
            String chart = "chart 2 " + n + ";";
            Due.is("one", Due.rocksOf(Due.told(chart + "rocks 1 " + last + " 1")).equals("<1 " + last + ">"), true);
            Due.is("round", Due.rocksOf(Due.told(chart + "rocks 2 " + last + " 2"))
                .equals("<2 0><2 " + last + ">"), true);
            Due.is("to the right", Due.rocksOf(Due.told(chart + "rocks 2 1 3")).equals("<2 1><2 2><2 3>"), true);
            for (int from : new int[] {0, 1, last}) {
                Due.is("all", Due.told(chart + "rocks 1 " + from + " " + n).count(3), n);
                Due.is("all but one", Due.told(chart + "rocks 1 " + from + " " + last).count(3), last);
            }
            StreamTree x = Due.told(chart + "rocks 1 1 " + last);
            Due.is("all but the one to the left", x.bars(1, 0), NONE);
            Due.textIs(chart + "rocks 1 0 " + (n + 1), Due.fault(chart.length() + 10, 2));
            Due.textIs(chart + "rocks 1 0 0", Due.fault(chart.length() + 10, 2));
        }

        Due.sentence("part 1", "what is one may be told again");
        Due.is("the same", Due.told("chart 2 6;rocks 1 1 2;rocks 1 1 2").count(3), 2);
        Due.is("some of them", Due.told("chart 2 6;rocks 1 1 2;rocks 1 2 2;rocks 1 0 6").count(3), 6);
    }

    private static void faultsOfForm() {
        Due.sentence("part 1", "TOKEN with which no such text goes on (the end: its place)");
        Due.textIs("", Due.fault(0, 1));
        Due.textIs(" ", Due.fault(1, 1));
        Due.textIs("chart", Due.fault(5, 1));
        Due.textIs("chart\n", Due.fault(6, 1));
        Due.textIs("chart 2", Due.fault(7, 1));
        Due.textIs("chart 2 6;", Due.fault(10, 1));
        Due.textIs("chart 2 6;  ", Due.fault(12, 1));
        Due.textIs("chart 2 6;reach", Due.fault(15, 1));
        Due.textIs("chart 2 6;reach  ", Due.fault(17, 1));

        Due.sentence("part 1", "FAULTS, the first from the left");
        Due.textIs("chart 10 5 ? x", Due.fault(6, 2));
        Due.textIs("chart 9 5 ?", Due.fault(8, 2));
        Due.textIs("chart 9 6 ? x 100", Due.fault(10, 1));
        Due.textIs("chart 9 6;base 100;place 0 0 0", Due.fault(15, 2));
        Due.textIs("chart 9 6;place 1 6 0", Due.fault(18, 2));
        Due.textIs("chart 9 6;place 10 6 0", Due.fault(16, 2));
        Due.textIs("chart 9 6;place 1 1 1;place 1 1 0", Due.fault(30, 3));
        Due.textIs("chart 9 6;place 1 1 1;place 1 1 ?", Due.fault(30, 3));
        Due.textIs("chart 9 6;place 1 1 1;place 1 1", Due.fault(30, 3));
        Due.textIs(SEVEN + ";place ?", Due.fault(94, 4));
        Due.textIs(SEVEN + ";place 0 0 0", Due.fault(94, 4));
        Due.textIs(SEVEN + ";place 1 0 1", Due.fault(94, 4));
        Due.textIs(SEVEN + ";plac 1 0 1", Due.fault(94, 1));

        Due.sentence("part 1", "of one place the least");
        Due.textIs("chart 2 6;place 1 3 1;rocks 1 0 7", Due.fault(32, 2));
        Due.textIs("chart 2 6;place 1 0 1;place 1 6 1", Due.fault(30, 2));
        Due.textIs("chart 2 6;place 1 3 1;rocks 1 0 0007", Due.fault(32, 1));
        Due.textIs("chart 2 6;base 1234", Due.fault(15, 1));
    }

    private static void faultsOfBounds() {
        Due.sentence("part 1", "2 a NUMBER out of bounds");
        Due.textIs("chart 1 6", Due.fault(6, 2));
        Due.textIs("chart 0 6", Due.fault(6, 2));
        Due.textIs("chart 10 6", Due.fault(6, 2));
        Due.textIs("chart 999 6", Due.fault(6, 2));
        Due.textIs("chart 2 5", Due.fault(8, 2));
        Due.textIs("chart 2 25", Due.fault(8, 2));
        for (String word : new String[] {"place", "rocks"}) {
            String head = ";" + word + " ";
            Due.textIs("chart 2 6" + head + "0 0 1", Due.fault(16, 2));
            Due.textIs("chart 2 6" + head + "3 0 1", Due.fault(16, 2));
            Due.textIs("chart 9 6" + head + "10 0 1", Due.fault(16, 2));
            Due.textIs("chart 2 6" + head + "2 6 1", Due.fault(18, 2));
            Due.textIs("chart 2 24" + head + "2 24 1", Due.fault(19, 2));
            Due.textIs("chart 2 6" + head + "1 5 0", Due.fault(20, 2));
            int many = word.equals("place") ? 1 : 0;
            Due.textIs("chart 2 6" + head + "1 0 1", many);
            Due.textIs("chart 2 6" + head + "2 5 1", many);
            Due.textIs("chart 9 24" + head + "9 23 1", many);
        }
        Due.textIs("chart 2 6;place 2 5 99", 1);
        Due.textIs("chart 2 6;place 2 5 100", Due.fault(20, 2));
        Due.textIs("chart 2 6;rocks 2 5 6", 0);
        Due.textIs("chart 2 6;rocks 2 5 7", Due.fault(20, 2));
        Due.textIs("chart 2 7;rocks 2 5 7", 0);
        Due.textIs("chart 2 6;base 1", 0);
        Due.textIs("chart 2 6;base 0", Due.fault(15, 2));
        Due.textIs("chart 2 6;base 99", 0);
        Due.textIs("chart 2 6;base 100", Due.fault(15, 2));
        Due.textIs("chart 2 6;bend 0", 0);
        Due.textIs("chart 2 6;bend 40", 0);
        Due.textIs("chart 2 6;bend 41", Due.fault(15, 2));
        Due.textIs("chart 2 6;reach 0", 0);
        Due.textIs("chart 2 6;reach 6", 0);
        Due.textIs("chart 2 6;reach 7", Due.fault(16, 2));
    }

    private static void faultsOfPlaces() {
        Due.sentence("part 1", "3 a PLACE where a PLACE or a ROCK is (at its TURN)");
        Due.textIs("chart 2 6;place 1 1 1;place 1 1 1", Due.fault(30, 3));
        Due.textIs("chart 2 6;place 1 1 1;place  1\n 1 2", Due.fault(32, 3));
        Due.textIs("chart 2 6;place 1 1 1;place 2 1 1;place 1 2 1;place 1 0 1", 4);
        Due.textIs("chart 2 6;rocks 1 4 3;place 1 4 1", Due.fault(30, 3));
        Due.textIs("chart 2 6;rocks 1 4 3;place 1 0 1", Due.fault(30, 3));
        Due.textIs("chart 2 6;rocks 1 4 3;place 1 1 1", 1);
        Due.textIs("chart 2 6;rocks 1 4 3;place 1 3 1", 1);
        Due.textIs("chart 2 6;rocks 1 4 3;place 2 4 1", 1);

        Due.sentence("part 1", "rocks where a PLACE is (at how many)");
        Due.textIs("chart 2 6;place 1 0 1;rocks 1 0 1", Due.fault(32, 3));
        Due.textIs("chart 2 6;place 1 0 1;rocks 1 5 2", Due.fault(32, 3));
        Due.textIs("chart 2 6;place 1 0 1;rocks 1 5 1", 1);
        Due.textIs("chart 2 6;place 1 0 1;rocks 1 1 6", Due.fault(32, 3));
        Due.textIs("chart 2 6;place 1 0 1;rocks 1 1 5", 1);
        Due.textIs("chart 2 6;place 1 0 1;rocks 2 0 6", 1);
        Due.textIs("chart 2 6;place 1 0 1;rocks 1 5  2", Due.fault(33, 3));

        Due.sentence("part 1", "4 an eighth PLACE (at place)");
        Due.textIs(SEVEN, 7);
        Due.textIs(SEVEN + ";place 2 1 1", Due.fault(94, 4));
        Due.textIs(SEVEN + " ; \n place 2 1 1", Due.fault(98, 4));
        Due.textIs(SEVEN + ";base 1;rocks 2 1 5", 7);
        Due.textIs(SEVEN.replace(";place 2 0 1", "") + ";base 1;place 2 1 1", 7);
    }

    public static void main(String[] args) {
        tape();
        feed();
        reading();
        blanks();
        bytes();
        tokens();
        grammar();
        rockLines();
        faultsOfForm();
        faultsOfBounds();
        faultsOfPlaces();
        Due.end();
    }
}
