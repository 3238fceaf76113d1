import java.io.IOException;
import java.nio.file.Files;
import java.nio.file.Path;
import java.util.NoSuchElementException;

/** Holds answers against those that are due, each under a sentence that stands in the document. */
final class Due {
    static final int NONE = -1;
    static final int NO_TREE = -2;
    static final int FAR = Integer.MAX_VALUE;
    static final int DEEP = Integer.MIN_VALUE;

    private static final String DOCUMENT = documentOrNothing();
    private static String open = "";
    private static int heldOfOpen = 1;
    private static int sentences = 0;
    private static int held = 0;
    private static int wrong = 0;

    private Due() {
    }

    private static String documentOrNothing() {
        try {
            return Files.readString(Path.of("../shared/DOC.md")).replace("`", "");
        } catch (IOException e) {
            return "";
        }
    }

    /** How a section begins: "==== 1. " (asked for as "part 1"), "## Promise 5: " ("promise 5"), or "## Terms". */
    private static String headOf(String where) {
        String number = where.substring(where.indexOf(' ') + 1);
        if (where.startsWith("part ")) {
            return "\n==== " + number + ". ";
        }
        return where.startsWith("promise ") ? "\n## Promise " + number + ": " : "\n## " + where + "\n";
    }

    /** Where the words stand in that section of a document; -1 if they do not. */
    static int find(String document, String where, String words) {
        int from = document.indexOf(headOf(where));
        if (from < 0) {
            return -1;
        }
        int part = document.indexOf("\n====", from + 1);
        int heading = document.indexOf("\n## ", from + 1);
        int to = heading < 0 ? document.length() : heading;
        to = part < 0 ? to : Math.min(part, to);
        int at = document.indexOf(words, from);
        return at >= 0 && at + words.length() <= to ? at : -1;
    }

    /** What is held from here on is held by these words, which must stand in that section of the document. */
    static void sentence(String where, String words) {
        closeSentence();
        open = where + " \"" + words + "\"";
        heldOfOpen = 0;
        sentences++;
        if (!DOCUMENT.isEmpty() && find(DOCUMENT, where, words) < 0) {
            fail("these words do not stand there");
        }
    }

    private static void closeSentence() {
        if (heldOfOpen == 0) {
            fail("nothing is held by it");
        }
    }

    private static void fail(String why) {
        wrong++;
        System.out.println(open + ": " + why);
    }

    static void is(String call, int got, int want) {
        held++;
        heldOfOpen++;
        if (got != want) {
            fail(call + " answered " + got + ", due is " + want);
        }
    }

    static void is(String call, boolean got, boolean want) {
        is(call, got ? 1 : 0, want ? 1 : 0);
    }

    static void throwsNoSuch(StreamTree x, int place, int what) {
        int thrown = 0;
        try {
            x.at(place, what);
        } catch (NoSuchElementException e) {
            thrown = 1;
        }
        is("at(" + place + ", " + what + ") throws", thrown, 1);
    }

    /** Calls that are refused, or that only ask: all that can be asked stays as it was. */
    static void stays(StreamTree x, Runnable calls) {
        String before = stateOf(x);
        calls.run();
        String after = stateOf(x);
        is("the state was " + before + " and is " + after + ": does it stay", before.equals(after), true);
    }

    private static String stateOf(StreamTree x) {
        StringBuilder sb = new StringBuilder();
        for (int what = 0; what <= 9; what++) {
            sb.append(x.count(what)).append(' ');
        }
        for (int p = 0; p < x.count(2); p++) {
            sb.append('(').append(x.at(p, 0)).append(' ').append(x.at(p, 1)).append(' ').append(x.at(p, 2)).append(')');
        }
        for (int manner = 0; manner <= 4; manner++) {
            sb.append(' ').append(x.ink(manner));
        }
        sb.append(' ').append(rocksOf(x));
        return sb.toString();
    }

    /** Where the rocks are, asked without a change. */
    static String rocksOf(StreamTree x) {
        StringBuilder sb = new StringBuilder();
        int rings = x.count(0);
        int turns = x.count(1);
        for (int ring = 1; ring <= rings; ring++) {
            for (int turn = 0; turn < turns; turn++) {
                if (x.bars(ring, turn) != NONE) {
                    sb.append('<').append(ring).append(' ').append(turn).append('>');
                }
            }
        }
        return sb.toString();
    }

    /** Puts a text on the tape, filled up with blanks to a multiple of 20. */
    static void feed(StreamTree x, String text) {
        for (int i = 0; i < text.length(); i += 20) {
            int[] v = new int[5];
            for (int k = 0; k < 20; k++) {
                int b = i + k < text.length() ? text.charAt(i + k) & 255 : 32;
                v[k / 4] |= b << (24 - 8 * (k % 4));
            }
            x.feed(v[0], v[1], v[2], v[3], v[4]);
        }
    }

    static int read(StreamTree x, String text) {
        feed(x, text);
        return x.text(text.length());
    }

    static StreamTree told(String text) {
        StreamTree x = new StreamTree();
        int answer = read(x, text);
        if (answer < 0) {
            fail("the test's own text '" + text + "' answered " + answer);
        }
        return x;
    }

    /** What text() answers where a fault of that kind stands at that place. */
    static int fault(int place, int kind) {
        return -2 - (8 * place + kind);
    }

    static void textIs(String text, int want) {
        is("text of '" + text + "'", read(new StreamTree(), text), want);
    }

    static void end() {
        closeSentence();
        System.out.println(sentences + " sentences, " + held + " answers held, " + wrong + " not as due");
        if (wrong != 0) {
            System.exit(1);
        }
    }
}
