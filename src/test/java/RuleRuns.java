import java.io.IOException;
import java.nio.file.Files;
import java.nio.file.Path;
import java.util.HashMap;
import java.util.HashSet;
import java.util.Map;
import java.util.Set;
import java.util.TreeSet;
import java.util.regex.Matcher;
import java.util.regex.Pattern;

/** Looks through the class's source for the rules of ../shared/LANGUAGE.md that can be seen there. */
public final class RuleRuns {
    private static final int MOST_PARAMETERS = 7;
    private static final int MOST_LINES = 60;
    private static final int MOST_DEPTH = 8;
    private static final int MOST_FIELDS = 20;
    private static final Pattern METHOD = Pattern.compile(
        "(?m)^ +(?:(?:public|private|static|final) +)*([\\w\\[\\]]+ +)?(\\w+)\\(([^)]*)\\)(?: +throws +\\w+)? *\\{");
    private static final Pattern CALL = Pattern.compile("(?<!new |Arrays\\.|System\\.|Math\\.)\\b(\\w+)\\(");
    private static int wrong = 0;

    private static void due(String rule, boolean stands) {
        if (!stands) {
            wrong++;
            System.out.println("not kept, rule " + rule);
        }
    }

    /** The source with its comments and its texts' signs blanked out, each line at its place. */
    private static String bare(String source) {
        Matcher m = Pattern.compile("(?s)/\\*.*?\\*/|//[^\\n]*|\"(?:\\\\.|[^\"\\\\])*\"|'(?:\\\\.|[^'\\\\])'").matcher(source);
        StringBuilder sb = new StringBuilder();
        while (m.find()) {
            m.appendReplacement(sb, m.group().startsWith("/") ? m.group().replaceAll("[^\\n]", " ") : "T");
        }
        return m.appendTail(sb).toString();
    }

    private static int closing(String text, int open) {
        int depth = 0;
        for (int k = open; k < text.length(); k++) {
            depth += text.charAt(k) == '{' ? 1 : text.charAt(k) == '}' ? -1 : 0;
            if (depth == 0) {
                return k;
            }
        }
        return text.length();
    }

    private static Set<String> found(String pattern, String text) {
        Set<String> all = new TreeSet<>();
        Matcher m = Pattern.compile(pattern, Pattern.MULTILINE).matcher(text);
        while (m.find()) {
            all.add(m.group().strip());
        }
        return all;
    }

    private static void dueNone(String rule, String pattern, String text) {
        Set<String> all = found(pattern, text);
        due(rule + ": " + all, all.isEmpty());
    }

    private static void words(String bare) {
        dueNone("2, no lambda, no method reference", "->|::", bare);
        dueNone("3, no double, no float, no other collection", "\\b(double|float|Double|Map|Set|Object|var)\\b", bare);
        Set<String> imports = found("^import .*;", bare);
        due("4, imports " + imports, imports.equals(new TreeSet<>(Set.of("import java.util.Arrays;",
            "import java.util.NoSuchElementException;"))));
        Set<String> library = found("\\b(Math|Integer|Arrays|System|Long)\\.\\w+(?=\\()", bare);
        library.removeAll(Set.of("Math.min", "Math.max", "Integer.bitCount", "Arrays.fill", "System.arraycopy"));
        due("4, of the library only what stands there: " + library, library.isEmpty());
        dueNone("5, static fields are final", "^ *(private |public )?static (?!final)[\\w\\[\\]]+ \\w+ *[=;]", bare);
        dueNone("5, no static block", "\\bstatic *\\{", bare);
        dueNone("6", "\\b(try|catch|finally|synchronized|assert|equals|hashCode|toString|getMessage|instanceof)\\b", bare);
        dueNone("6, only what the document tells is thrown", "\\bthrow (?!new NoSuchElementException\\(T\\);).*", bare);
        dueNone("13", "\\b(Random|Thread|File|currentTimeMillis|nanoTime|getenv|getProperty|out)\\b", bare);
        dueNone("1, no package", "^package\\b", bare);
        dueNone("9, each loop has a bound of its own", "while \\(true\\)|for \\(;;\\)", bare);
    }

    /** Methods of like names are taken as one, which can only make the chain of calls longer. */
    private static Map<String, Set<String>> calls(String bare) {
        Map<String, Set<String>> calls = new HashMap<>();
        Map<String, String> bodies = new HashMap<>();
        Matcher m = METHOD.matcher(bare);
        while (m.find()) {
            String name = m.group(2);
            if (Set.of("if", "for", "while", "switch").contains(name)) {
                continue;
            }
            String body = bare.substring(m.end() - 1, closing(bare, m.end() - 1));
            int parameters = m.group(3).isBlank() ? 0 : m.group(3).split(",").length;
            due("11, parameters of " + name + ": " + parameters, parameters <= MOST_PARAMETERS);
            long lines = body.lines().count();
            due("11, lines of " + name + ": " + lines, lines <= MOST_LINES);
            bodies.merge(name, body, String::concat);
        }
        for (Map.Entry<String, String> e : bodies.entrySet()) {
            Set<String> called = new HashSet<>();
            Matcher c = CALL.matcher(e.getValue());
            while (c.find()) {
                if (bodies.containsKey(c.group(1))) {
                    called.add(c.group(1));
                }
            }
            calls.put(e.getKey(), called);
        }
        return calls;
    }

    private static int depth(Map<String, Set<String>> calls, String name, int above) {
        if (above > 2 * MOST_DEPTH) {
            return 0;
        }
        int most = 0;
        for (String called : calls.get(name)) {
            most = Math.max(most, depth(calls, called, above + 1));
        }
        return most + 1;
    }

    private static int chains(Map<String, Set<String>> calls) {
        int most = 0;
        for (String name : calls.keySet()) {
            int depth = depth(calls, name, 0);
            due("11, calls from " + name + " go " + depth + " deep", depth <= MOST_DEPTH);
            most = Math.max(most, depth);
        }
        return most;
    }

    private static void fields() {
        for (Class<?> inside : StreamTree.class.getDeclaredClasses()) {
            int own = 0;
            for (java.lang.reflect.Field f : inside.getDeclaredFields()) {
                boolean isStatic = java.lang.reflect.Modifier.isStatic(f.getModifiers());
                due("5, static and final: " + f, !isStatic || java.lang.reflect.Modifier.isFinal(f.getModifiers()));
                own += isStatic ? 0 : 1;
            }
            due("11, fields of " + inside + ": " + own, own <= MOST_FIELDS);
        }
    }

    public static void main(String[] args) throws IOException {
        String source = Files.readString(Path.of("src/main/java/StreamTree.java"));
        due("4, signs 1 to 127", source.chars().allMatch(c -> c >= 1 && c <= 127));
        String bare = bare(source);
        words(bare);
        Map<String, Set<String>> calls = calls(bare);
        due("all methods are seen: " + calls.size(), calls.keySet().containsAll(Set.of("feed", "count", "tryStep", "offer")));
        int deepest = chains(calls);
        fields();
        System.out.println(calls.size() + " methods, the deepest chain of calls " + deepest + ", " + wrong + " things not as due");
        if (wrong != 0) {
            System.exit(1);
        }
    }
}
