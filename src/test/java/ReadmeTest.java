import java.io.IOException;
import java.lang.reflect.Method;
import java.nio.file.Files;
import java.nio.file.Path;
import java.util.ArrayList;
import java.util.List;
import java.util.Set;
import java.util.TreeSet;
import java.util.concurrent.Callable;
import java.util.regex.Matcher;
import java.util.regex.Pattern;
import java.util.stream.Stream;
import javax.tools.JavaCompiler;
import javax.tools.ToolProvider;

/**
 * README.md holds: its Java is put into one class, each call with the answer behind it, compiled and run; and it
 * shows every call of the face and names every test.
 */
public final class ReadmeTest {
    private static final Path README = Path.of("README.md");
    private static final Path TESTS = Path.of("src/test/java");
    private static final Pattern BLOCK = Pattern.compile("(?ms)^```java\n(.*?)^```$");
    private static final Pattern CALL = Pattern.compile("((?:x\\.(\\w+)|tell)\\(.*\\));(?:\\s+// (throws )?([\\w-]+)\\b.*)?");
    private static final Set<String> SILENT = Set.of("see", "image");

    private static final Check CHECK = new Check();

    private final Set<String> shown = new TreeSet<>();
    private final StringBuilder example = new StringBuilder();

    public static void main(String[] args) throws Exception {
        String page = Files.readString(README);
        ReadmeTest test = new ReadmeTest();
        test.examples(page);
        test.face();
        test.files(page);
        CHECK.close("ReadmeTest");
    }

    /** What the example calls for each call of the page. */
    public static void due(String call, String want, Callable<Object> made) {
        CHECK.dueRow("README.md: " + call, want, () -> outcome(made));
    }

    private static String outcome(Callable<Object> made) {
        try {
            return made.call().toString();
        } catch (Exception e) {
            return "throws " + e.getClass().getSimpleName();
        }
    }

    private void examples(String page) throws Exception {
        List<String> methods = new ArrayList<>();
        example.append("import java.nio.ByteBuffer;\nimport java.nio.charset.StandardCharsets;\n");
        example.append("public final class ReadmeExample {\npublic static void main(String[] args) {\n");
        Matcher blocks = BLOCK.matcher(page);
        while (blocks.find()) {
            if (blocks.group(1).startsWith("static ")) {
                methods.add(blocks.group(1));
            } else {
                calls(blocks.group(1));
            }
        }
        example.append("}\n").append(String.join("\n", methods)).append("}\n");
        compileAndRun();
    }

    private void calls(String block) {
        example.append("{\n");
        for (String line : block.split("\n")) {
            Matcher call = CALL.matcher(line);
            if (!call.matches()) {
                CHECK.dueRow("a line that is no call", "PileTricks x = new PileTricks();", () -> line);
                example.append(line).append('\n');
                continue;
            }
            if (call.group(2) != null) {
                shown.add(call.group(2));
            }
            CHECK.dueTrue("README.md tells what this answers: " + line,
                call.group(4) != null ^ SILENT.contains(String.valueOf(call.group(2))));
            String want = (call.group(3) == null ? "" : call.group(3)) + call.group(4);
            example.append(call.group(4) == null ? line : "ReadmeTest.due(" + quoted(call.group(1)) + ", " + quoted(want)
                + ", () -> " + call.group(1) + ");").append('\n');
        }
        example.append("}\n");
    }

    private static String quoted(String text) {
        return "\"" + text.replace("\\", "\\\\").replace("\"", "\\\"") + "\"";
    }

    private void compileAndRun() throws Exception {
        Path directory = Files.createTempDirectory("readme");
        Path source = directory.resolve("ReadmeExample.java");
        try {
            Files.writeString(source, example);
            JavaCompiler compiler = ToolProvider.getSystemJavaCompiler();
            int code = compiler.run(null, null, null, "-cp", System.getProperty("java.class.path"),
                "-d", directory.toString(), source.toString());
            CHECK.due("README.md compiles", 0, () -> code);
            if (code == 0) {
                new Loader(Files.readAllBytes(directory.resolve("ReadmeExample.class"))).run();
            }
        } finally {
            for (String name : List.of("ReadmeExample.class", "ReadmeExample.java", "")) {
                Files.deleteIfExists(directory.resolve(name));
            }
        }
    }

    /** The example is loaded beside this test, so that it counts with the same Check. */
    private static final class Loader extends ClassLoader {
        private final byte[] code;

        Loader(byte[] code) {
            super(ReadmeTest.class.getClassLoader());
            this.code = code;
        }

        void run() throws Exception {
            Class<?> made = defineClass("ReadmeExample", code, 0, code.length);
            made.getMethod("main", String[].class).invoke(null, (Object) new String[0]);
        }
    }

    private void face() {
        for (Method method : PileTricks.class.getDeclaredMethods()) {
            if (java.lang.reflect.Modifier.isPublic(method.getModifiers())) {
                CHECK.dueTrue("README.md shows " + method.getName() + "()", shown.contains(method.getName()));
            }
        }
    }

    private void files(String page) throws IOException {
        Set<String> named = new TreeSet<>();
        Matcher names = Pattern.compile("`((?:src|\\.ci|\\.\\./shared)/[\\w./]+)`").matcher(page);
        while (names.find()) {
            named.add(names.group(1));
            CHECK.dueTrue(names.group(1) + " is there", Files.exists(Path.of(names.group(1))));
        }
        try (Stream<Path> tests = Files.list(TESTS)) {
            tests.forEach(test -> CHECK.dueTrue("README.md names " + test, named.contains(test.toString())));
        }
        CHECK.dueTrue("README.md says how to run the tests", page.contains("\n    .ci/run\n"));
        CHECK.dueTrue(".ci/run can be run", Files.isExecutable(Path.of(".ci/run")));
    }
}
