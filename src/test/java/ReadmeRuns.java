import java.io.IOException;
import java.lang.reflect.Method;
import java.lang.reflect.Modifier;
import java.net.URL;
import java.net.URLClassLoader;
import java.nio.file.Files;
import java.nio.file.Path;
import java.util.ArrayList;
import java.util.List;
import java.util.regex.Matcher;
import java.util.regex.Pattern;
import javax.tools.JavaCompiler;
import javax.tools.ToolProvider;

/** Compiles and runs the examples of README.md: what is called answers what the comment behind it says. */
public final class ReadmeRuns {
    private static final Pattern BLOCK = Pattern.compile("(?ms)^```java\\n(.*?)^```");
    private static final Pattern ANSWERED = Pattern.compile("^(.*\\S);\\s+// (-?\\d+|true|false|throws \\w+)(?::.*)?$");
    private static final Pattern KEPT = Pattern.compile("(?:int|boolean) (\\w+) = .*");
    private static final String NAME = "ReadmeExamples";
    private static int wrong = 0;
    private static int answers = 0;

    private static void fail(String why) {
        wrong++;
        System.out.println(why);
    }

    private static String quoted(String text) {
        return '"' + text.replace("\\", "\\\\").replace("\"", "\\\"") + '"';
    }

    /** A line with an answer becomes one that holds it; every call must have one. */
    private static String line(String line) {
        Matcher m = ANSWERED.matcher(line);
        if (!m.matches()) {
            if (line.startsWith("x.") || line.startsWith("read(")) {
                fail("README.md does not say what this answers: " + line);
            }
            return line + "\n";
        }
        answers++;
        String call = m.group(1);
        String due = m.group(2);
        Matcher kept = KEPT.matcher(call);
        if (kept.matches()) {
            return line + "\ndue(" + quoted(call) + ", " + quoted(due) + ", String.valueOf(" + kept.group(1) + "));\n";
        }
        return "try { due(" + quoted(call) + ", " + quoted(due) + ", String.valueOf(" + call + ")); }\n"
            + "catch (RuntimeException e) { due(" + quoted(call) + ", " + quoted(due)
            + ", \"throws \" + e.getClass().getSimpleName()); }\n";
    }

    private static String program(List<String> blocks) {
        StringBuilder sb = new StringBuilder("public final class " + NAME + " {\n");
        sb.append("static int wrong = 0;\n");
        sb.append("static void due(String call, String due, String got) { if (!due.equals(got)) { wrong++;\n");
        sb.append("System.out.println(\"README.md: \" + call + \" answered \" + got + \", due is \" + due); } }\n");
        StringBuilder all = new StringBuilder("public static int runAll() {\n");
        for (int k = 0; k < blocks.size(); k++) {
            if (blocks.get(k).startsWith("static ")) {
                sb.append(blocks.get(k));
                continue;
            }
            // As it stands on the page, so that the compiler sees it.
            sb.append("static void asItStands").append(k).append("() {\n").append(blocks.get(k)).append("}\n");
            sb.append("static void example").append(k).append("() {\n");
            blocks.get(k).lines().forEach(l -> sb.append(line(l)));
            sb.append("}\n");
            all.append("example").append(k).append("();\n");
        }
        return sb.append(all).append("return wrong;\n}\n}\n").toString();
    }

    private static int run(String program) throws IOException, ReflectiveOperationException {
        Path dir = Files.createTempDirectory("readme");
        Path source = dir.resolve(NAME + ".java");
        Files.writeString(source, program);
        JavaCompiler compiler = ToolProvider.getSystemJavaCompiler();
        String path = System.getProperty("java.class.path");
        try (URLClassLoader loader = new URLClassLoader(new URL[] {dir.toUri().toURL()})) {
            String[] options = {"-cp", path, "-d", dir.toString(), source.toString()};
            if (compiler == null || compiler.run(null, null, null, options) != 0) {
                fail("the examples of README.md do not compile");
                return 0;
            }
            return (int) loader.loadClass(NAME).getMethod("runAll").invoke(null);
        } finally {
            for (String name : new String[] {NAME + ".java", NAME + ".class", ""}) {
                Files.deleteIfExists(dir.resolve(name));
            }
        }
    }

    private static void dueAllCalls(List<String> blocks) {
        for (Method m : StreamTree.class.getDeclaredMethods()) {
            boolean shown = blocks.stream().anyMatch(b -> b.contains("x." + m.getName() + "("));
            if (Modifier.isPublic(m.getModifiers()) && !shown) {
                fail("README.md has no example with " + m.getName());
            }
        }
    }

    /** The page names each test of the project, and no test that is not there. */
    private static void dueAllTests(String page) throws IOException {
        try (var tests = Files.list(Path.of("src/test/java"))) {
            for (Path test : tests.toList()) {
                String name = test.getFileName().toString().replace(".java", "");
                if (!page.contains("`" + name + "`")) {
                    fail("README.md does not name the test " + name);
                }
            }
        }
        Matcher m = Pattern.compile("`([A-Z][A-Za-z]*(?:Runs|Edges))`").matcher(page);
        while (m.find()) {
            if (!Files.exists(Path.of("src/test/java", m.group(1) + ".java"))) {
                fail("README.md names a test that is not there: " + m.group(1));
            }
        }
    }

    public static void main(String[] args) throws IOException, ReflectiveOperationException {
        String page = Files.readString(Path.of("README.md"));
        List<String> blocks = new ArrayList<>();
        Matcher m = BLOCK.matcher(page);
        while (m.find()) {
            blocks.add(m.group(1));
        }
        dueAllCalls(blocks);
        dueAllTests(page);
        wrong += run(program(blocks));
        System.out.println(blocks.size() + " examples with " + answers + " answers, " + wrong + " not as due");
        if (wrong != 0) {
            System.exit(1);
        }
    }
}
