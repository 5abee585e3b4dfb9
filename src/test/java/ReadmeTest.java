import java.io.IOException;
import java.lang.reflect.InvocationTargetException;
import java.lang.reflect.Method;
import java.lang.reflect.Modifier;
import java.net.URL;
import java.net.URLClassLoader;
import java.nio.file.Files;
import java.nio.file.Path;
import java.util.ArrayList;
import java.util.Comparator;
import java.util.List;
import java.util.regex.Matcher;
import java.util.regex.Pattern;
import java.util.stream.Stream;
import javax.tools.ToolProvider;

/** What README.md shows of calls and answers holds: its code is compiled as it stands and run in its order, each call against the answer behind it. */
public final class ReadmeTest {
    private static final Pattern MADE = Pattern.compile("FirstComer \\w+ = new FirstComer\\(\\);.*");
    private static final Pattern CALL = Pattern.compile("(?:int (\\w+) = )?(\\S.*\\));\\s+// (throws \\w+|-?\\w+)(?::.*)?");
    private static final String NOTHING_THROWN = "";
    private static int passed;
    private static int failed;
    private static int made;

    private final StringBuilder methods = new StringBuilder();
    private final StringBuilder calls = new StringBuilder();
    private int shown;

    private ReadmeTest() {
    }

    public static void main(String[] args) throws Exception {
        Path file = Path.of(System.getProperty("readme", "README.md"));
        List<String> page = Files.readAllLines(file);
        ReadmeTest test = new ReadmeTest();
        List<String> code = test.read(page);
        showsEveryCall(code);
        namesEveryTest(file, String.join("\n", page));
        test.runCode();
        yes("every call that is shown was made", test.shown > 0 && made == test.shown);
        System.out.println("ReadmeTest: " + passed + " passed, " + failed + " failed");
        if (failed > 0) {
            System.exit(1);
        }
    }

    private static void yes(String what, boolean got) {
        if (got) {
            passed++;
        } else {
            failed++;
            System.out.println("ReadmeTest: not so: " + what);
        }
    }

    /** What the compiled page calls with each answer; an exception's name comes as thrown. */
    public static void due(String call, Object got, String thrown, Object want) {
        made++;
        String is = thrown.equals(NOTHING_THROWN) ? String.valueOf(got) : "throws " + thrown;
        yes(call + " answers " + want + ", but " + is + " came", is.equals(String.valueOf(want)));
    }

    /** All lines of the blocks of code; a block of methods is kept whole, of the others each line is a call with its answer. */
    private List<String> read(List<String> page) {
        List<String> code = new ArrayList<>();
        boolean inside = false;
        boolean method = false;
        for (String line : page) {
            if (line.startsWith("```")) {
                inside = line.equals("```java");
                method = false;
            } else if (inside) {
                method = method || line.startsWith("static ");
                if (method) {
                    methods.append(line).append('\n');
                } else {
                    takeCall(line);
                }
                code.add(line);
            }
        }
        return code;
    }

    private void takeCall(String line) {
        if (MADE.matcher(line).matches()) {
            calls.append(line).append('\n');
            return;
        }
        Matcher m = CALL.matcher(line);
        if (!m.matches()) {
            yes("a call with its answer: " + line, false);
            return;
        }
        shown++;
        String call = "\"" + m.group(2).replace("\\", "\\\\").replace("\"", "\\\"") + "\"";
        String answer = m.group(2);
        if (m.group(1) != null) {
            calls.append(line).append('\n');
            answer = m.group(1);
        }
        if (m.group(3).startsWith("throws ")) {
            calls.append("try { ReadmeTest.due(" + call + ", " + answer + ", \"\", \"" + m.group(3) + "\"); }");
            calls.append(" catch (RuntimeException e) { ReadmeTest.due(" + call + ", 0, e.getClass().getSimpleName(), \"" + m.group(3) + "\"); }\n");
        } else {
            calls.append("ReadmeTest.due(" + call + ", " + answer + ", \"\", " + m.group(3).replace("NONE", "FirstComer.NONE") + ");\n");
        }
    }

    private static void showsEveryCall(List<String> code) {
        String all = String.join("\n", code);
        for (Method m : FirstComer.class.getDeclaredMethods()) {
            if (Modifier.isPublic(m.getModifiers())) {
                yes(m.getName() + "() is shown", all.contains("." + m.getName() + "("));
            }
        }
    }

    private static void namesEveryTest(Path readme, String page) throws IOException {
        yes("how to run the tests", page.contains("\n    .ci/run\n"));
        Path root = readme.toAbsolutePath().getParent();
        yes("there is a .ci/run", root != null && Files.isExecutable(root.resolve(".ci/run")));
        try (Stream<Path> files = Files.list(root.resolve("src/test/java"))) {
            for (Path file : files.toList()) {
                String name = file.getFileName().toString().replace(".java", "");
                yes(name + " is named", !name.endsWith("Test") || page.contains("`" + name + "`"));
            }
        }
    }

    private void runCode() throws Exception {
        Path folder = Files.createTempDirectory("readme");
        try {
            Path source = folder.resolve("Shown.java");
            Files.writeString(source, "public final class Shown {\npublic static void run() {\n" + calls + "}\n" + methods + "}\n");
            int code = ToolProvider.getSystemJavaCompiler().run(null, null, null, "-cp", System.getProperty("java.class.path"), "-d", folder.toString(), source.toString());
            yes("what is shown compiles", code == 0);
            if (code == 0) {
                runShown(folder);
            }
        } finally {
            remove(folder);
        }
    }

    private static void runShown(Path folder) throws Exception {
        try (URLClassLoader loader = new URLClassLoader(new URL[] {folder.toUri().toURL()}, ReadmeTest.class.getClassLoader())) {
            loader.loadClass("Shown").getMethod("run").invoke(null);
        } catch (InvocationTargetException e) {
            yes("what is shown ends without " + e.getCause(), false);
        }
    }

    private static void remove(Path folder) throws IOException {
        try (Stream<Path> files = Files.walk(folder)) {
            for (Path file : files.sorted(Comparator.reverseOrder()).toList()) {
                Files.delete(file);
            }
        }
    }
}
