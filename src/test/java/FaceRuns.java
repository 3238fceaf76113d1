import java.io.IOException;
import java.lang.management.ManagementFactory;
import java.lang.reflect.Constructor;
import java.lang.reflect.Field;
import java.lang.reflect.Method;
import java.lang.reflect.Modifier;
import java.nio.file.Files;
import java.nio.file.Path;
import java.util.Arrays;
import java.util.HashSet;
import java.util.List;
import java.util.NoSuchElementException;
import java.util.Set;
import java.util.TreeSet;

/** The class has the document's face and no other member that can be seen, and its calls make nothing anew. */
public final class FaceRuns {
    private static final List<String> FACE = List.of(
        "int feed(int, int, int, int, int)", "int text(int)", "boolean chart(int, int)", "int place(int, int, int)",
        "boolean rock(int, int, boolean)", "int set(int, int)", "int at(int, int)", "int ink(int)",
        "int width(int, int, int)", "int step(int, int, int)", "int join(int, int, int)", "int drawn(int, int)",
        "int way(int, int, int)", "int borne(int, int, int)", "int alone(int)", "int costs(int)", "int bars(int, int)",
        "int more(int, int, int, int)", "int best(int, int, int)", "int count(int)");
    private static int wrong = 0;

    private static void due(String what, boolean stands) {
        if (!stands) {
            wrong++;
            System.out.println("not as due: " + what);
        }
    }

    private static String told(Method m) {
        String types = Arrays.toString(m.getParameterTypes());
        return m.getReturnType() + " " + m.getName() + "(" + types.substring(1, types.length() - 1) + ")";
    }

    private static void members() {
        Class<?> c = StreamTree.class;
        due("public and final", Modifier.isPublic(c.getModifiers()) && Modifier.isFinal(c.getModifiers()));
        Set<String> seen = new TreeSet<>();
        Set<String> names = new HashSet<>();
        for (Method m : c.getDeclaredMethods()) {
            if (Modifier.isPublic(m.getModifiers())) {
                seen.add(told(m));
                names.add(m.getName());
            }
        }
        due("the public methods " + seen, seen.equals(new TreeSet<>(FACE)));
        for (Method m : c.getDeclaredMethods()) {
            due("seen or private: " + m, Modifier.isPublic(m.getModifiers()) || Modifier.isPrivate(m.getModifiers()));
            due("a name of its own: " + m, Modifier.isPublic(m.getModifiers()) || !names.contains(m.getName()));
        }
        for (Field f : c.getDeclaredFields()) {
            boolean isNone = f.getName().equals("NONE") && Modifier.isPublic(f.getModifiers());
            due("private: " + f, isNone || Modifier.isPrivate(f.getModifiers()));
            due("final if static: " + f, !Modifier.isStatic(f.getModifiers()) || Modifier.isFinal(f.getModifiers()));
        }
        for (Constructor<?> k : c.getDeclaredConstructors()) {
            due("the only constructor: " + k, Modifier.isPublic(k.getModifiers()) && k.getParameterCount() == 0);
        }
        for (Class<?> inside : c.getDeclaredClasses()) {
            due("static: " + inside, Modifier.isStatic(inside.getModifiers()));
            due("not public: " + inside, !Modifier.isPublic(inside.getModifiers()));
            for (Method m : inside.getDeclaredMethods()) {
                due("a name of its own: " + m, !names.contains(m.getName()));
            }
        }
        due("some twelve classes", c.getDeclaredClasses().length <= 12);
    }

    private static void thrown() throws NoSuchMethodException {
        Class<?>[] declared = StreamTree.class.getMethod("at", int.class, int.class).getExceptionTypes();
        due("what at() tells that it throws", Arrays.equals(declared, new Class<?>[] {NoSuchElementException.class}));
    }

    /** The document's face, line by line, stands in the source as it is, and nothing else there is public. */
    private static void asTheDocumentTells() throws IOException {
        String document = Files.readString(Path.of("../shared/DOC.md"));
        int from = document.indexOf("```java\n");
        int to = document.indexOf("```", from + 1);
        due("the document has a face", from >= 0 && to > from);
        String source = Files.readString(Path.of("src/main/java/StreamTree.java"));
        long told = document.substring(from, to).lines().filter(FaceRuns::isPublic).count();
        due("as many public lines: " + told, told == source.lines().filter(FaceRuns::isPublic).count());
        for (String line : document.substring(from, to).lines().filter(FaceRuns::isPublic).toList()) {
            String bare = line.strip().replace(";", "");
            due("in the source: " + bare, source.lines().anyMatch(l -> isThat(l.strip(), bare)));
        }
    }

    private static boolean isThat(String line, String told) {
        return line.equals(told) || line.equals(told + ";") || line.equals(told + " {");
    }

    private static boolean isPublic(String line) {
        return line.strip().startsWith("public ");
    }

    private static int sum = 0;

    private static void callAll(StreamTree x) {
        for (int k = 0; k < 40; k++) {
            sum += x.place(9, k % 24, 1 + k % 9) + (x.rock(1 + k % 8, (k * 7) % 24, k % 3 != 0) ? 1 : 0);
            sum += x.ink(k % 5) + x.width(1 + k % 4, k % 9, k % 24) + x.step(1 + k % 4, k % 9, k % 24);
            sum += x.join(1 + k % 4, k % 3 - 1, k % 3) + x.drawn(1 + k % 4, k % 5) + x.way(4, k % 7, k % 9);
            sum += x.borne(4, k % 9, k % 24) + x.alone(k % 7) + x.costs(k % 7) + x.bars(1 + k % 8, (k * 7) % 24);
            sum += x.more(9, k % 24, 1 + k, k % 3) + x.best(0, 0, 1 + k) + x.count(k % 10);
            sum += x.feed(0x63686172, 0x74203920, 0x32343b62, 0x61736520, 0x37202020);
            if (k % 10 == 9) {
                sum += x.text(18);
            }
        }
    }

    /** All calls of a run live in one room, so a call may not take of it. */
    private static void room() {
        com.sun.management.ThreadMXBean bean = (com.sun.management.ThreadMXBean) ManagementFactory.getThreadMXBean();
        long id = Thread.currentThread().getId();
        callAll(new StreamTree());
        long before = bean.getThreadAllocatedBytes(id);
        StreamTree x = new StreamTree();
        x.chart(9, 24);
        long made = bean.getThreadAllocatedBytes(id);
        callAll(x);
        long called = bean.getThreadAllocatedBytes(id);
        due("an object takes " + (made - before) + " bytes", made - before < 300_000);
        due("its calls take " + (called - made) + " bytes", called - made < 20_000);
    }

    public static void main(String[] args) throws NoSuchMethodException, IOException {
        members();
        thrown();
        asTheDocumentTells();
        room();
        System.out.println(wrong == 0 ? "the face is as due" : wrong + " things are not as due");
        if (wrong != 0) {
            System.exit(1);
        }
    }
}
