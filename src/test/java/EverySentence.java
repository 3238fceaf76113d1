import java.io.IOException;
import java.nio.file.Files;
import java.nio.file.Path;
import java.util.Arrays;
import java.util.List;
import java.util.regex.Matcher;
import java.util.regex.Pattern;
import java.util.stream.Stream;

/**
 * Each word of the document stands in a sentence under which some test holds answers (Due.sentence), so that what a later
 * document says anew is seen to have no test. The face is FaceRuns' matter; what says that something is free has none.
 */
public final class EverySentence {
    /** What can't be held by an answer. */
    private static final List<String> WITHOUT_TEST = List.of(
        "A flow tree: one source's flows to many drawn as a branching stream.",
        "; what later calls answer is free.",
        "How the state is held inside the object is free, as are the speed of each call, the text of toString and the "
            + "behaviour of equals and hashCode. Use of one object from several threads at once is not promised to be safe. "
            + "Nothing is promised beyond the answers and state changes described above, and nothing about an object after "
            + "its 512th call.");
    private static final Pattern CALL =
        Pattern.compile("Due\\.sentence\\(\"([^\"]*)\",\\s*((?:\"[^\"]*\"\\s*\\+?\\s*)+)\\)");
    private static final Pattern LITERAL = Pattern.compile("\"([^\"]*)\"");
    private static int wrong = 0;

    private static void fail(String why) {
        wrong++;
        System.out.println(why);
    }

    private static void cover(boolean[] covered, int from, int length) {
        Arrays.fill(covered, from, from + length, true);
    }

    private static int coverSentences(String source, String document, boolean[] covered) {
        int many = 0;
        Matcher call = CALL.matcher(source);
        while (call.find()) {
            StringBuilder words = new StringBuilder();
            Matcher literal = LITERAL.matcher(call.group(2));
            while (literal.find()) {
                words.append(literal.group(1));
            }
            int at = Due.find(document, call.group(1), words.toString());
            if (at < 0) {
                fail("not in " + call.group(1) + ": " + words);
            } else {
                cover(covered, at, words.length());
                many++;
            }
        }
        return many;
    }

    /** Headings, the face, the call's own line ahead of what it promises, and the marks of the three parts. */
    private static void coverFrame(String document, boolean[] covered) {
        String frame = "(?m)^#.*$|(?s)java\\nimport.*?\\n}|^text$|^==== \\d\\. "
            + "|^(?:int|boolean) [a-z]+\\([^)]*\\)(?: throws [A-Za-z]+)?: |^StreamTree\\(\\): ";
        Matcher m = Pattern.compile(frame, Pattern.MULTILINE).matcher(document);
        while (m.find()) {
            cover(covered, m.start(), m.end() - m.start());
        }
        for (String words : WITHOUT_TEST) {
            int at = document.indexOf(words);
            if (at < 0) {
                fail("the document does not say any more: " + words);
            } else {
                cover(covered, at, words.length());
            }
        }
    }

    private static void dueAllCovered(String document, boolean[] covered) {
        StringBuilder bare = new StringBuilder();
        for (int k = 0; k <= document.length(); k++) {
            if (k < document.length() && !covered[k]) {
                bare.append(document.charAt(k));
            } else {
                if (bare.chars().anyMatch(Character::isLetterOrDigit)) {
                    fail("no test holds: " + bare);
                }
                bare.setLength(0);
            }
        }
    }

    public static void main(String[] args) throws IOException {
        String document = Files.readString(Path.of("../shared/DOC.md")).replace("`", "");
        boolean[] covered = new boolean[document.length()];
        int sentences = 0;
        try (Stream<Path> tests = Files.list(Path.of("src/test/java"))) {
            for (Path test : tests.sorted().toList()) {
                sentences += coverSentences(Files.readString(test), document, covered);
            }
        }
        coverFrame(document, covered);
        dueAllCovered(document, covered);
        System.out.println(sentences + " sentences, " + wrong + " things not as due");
        if (wrong != 0) {
            System.exit(1);
        }
    }
}
