import java.io.ByteArrayOutputStream;
import java.io.File;
import java.io.PrintStream;
import java.lang.reflect.Method;
import java.lang.reflect.Modifier;
import java.net.URL;
import java.net.URLClassLoader;
import java.nio.charset.StandardCharsets;
import java.nio.file.Files;
import java.nio.file.Path;
import java.util.ArrayList;
import java.util.Arrays;
import java.util.List;
import java.util.regex.Matcher;
import java.util.regex.Pattern;
import java.util.stream.Collectors;
import javax.tools.JavaCompiler;
import javax.tools.ToolProvider;

/** README.md is right: its program prints what it says, and it names every call, constant and test. */
public final class ReadmeTest {
    private static final Path README = Path.of("README.md");
    private static final Path PROGRAM = Path.of("src/main/java/BitLevels.java");
    private static final Path TESTS = Path.of("src/test/java");
    private static final Pattern EXAMPLE = Pattern.compile("(?s)```java\\n(.*?)```");
    private static final Pattern PRINTED = Pattern.compile("println\\(.*\\); *// (-?\\d+)");

    private static int wrong = 0;

    private static void due(boolean holds, String fault) {
        if (!holds) {
            wrong++;
            System.out.println(fault);
        }
    }

    // ---- the program of the page

    private static List<String> dueLines(String example) {
        List<String> lines = new ArrayList<>();
        Matcher printed = PRINTED.matcher(example);
        while (printed.find()) {
            lines.add(printed.group(1));
        }
        return lines;
    }

    private static List<String> linesOf(String example, Path directory, JavaCompiler compiler) throws Exception {
        Path mine = directory.resolve("Mine.java");
        Files.writeString(mine, example);
        int failed = compiler.run(null, null, null, "-encoding", "UTF-8", "-d", directory.toString(),
                PROGRAM.toString(), mine.toString());
        due(failed == 0, "the program of " + README + " does not compile");
        return failed == 0 ? printedBy(directory) : List.of();
    }

    private static List<String> printedBy(Path directory) throws Exception {
        ByteArrayOutputStream bytes = new ByteArrayOutputStream();
        PrintStream out = System.out;
        System.setOut(new PrintStream(bytes, true, StandardCharsets.UTF_8));
        URL[] classes = {directory.toUri().toURL()};
        try (URLClassLoader loader = new URLClassLoader(classes, null)) {
            loader.loadClass("Mine").getMethod("main", String[].class).invoke(null, (Object) new String[0]);
        } finally {
            System.setOut(out);
        }
        return bytes.toString(StandardCharsets.UTF_8).lines().collect(Collectors.toList());
    }

    private static void example(String page) throws Exception {
        Matcher example = EXAMPLE.matcher(page);
        if (!example.find()) {
            due(false, README + " has no program");
            return;
        }
        List<String> want = dueLines(example.group(1));
        due(want.size() > 1, "the program of " + README + " does not say what it prints");
        JavaCompiler compiler = ToolProvider.getSystemJavaCompiler();
        if (compiler == null) {
            System.out.println("this java has no compiler of its own: the program of " + README + " is not run");
            return;
        }
        Path directory = Files.createTempDirectory("readme");
        try {
            List<String> got = linesOf(example.group(1), directory, compiler);
            due(got.equals(want), "the program of " + README + " prints " + got + ", due is " + want);
        } finally {
            for (File file : directory.toFile().listFiles()) {
                file.delete();
            }
            Files.delete(directory);
        }
    }

    // ---- what the page names

    private static void dueNamed(String page, String name) {
        due(page.contains("`" + name + "`"), README + " does not name " + name);
    }

    private static void names(String page) {
        for (Method method : BitLevels.class.getDeclaredMethods()) {
            if (Modifier.isPublic(method.getModifiers())) {
                dueNamed(page, method.getName());
            }
        }
        for (String constant : List.of("INVALID_ARGUMENT", "NOT_POSSIBLE", "LIMIT_REACHED", "NOT_FOUND")) {
            dueNamed(page, constant);
        }
        String[] tests = TESTS.toFile().list();
        Arrays.sort(tests);
        for (String test : tests) {
            dueNamed(page, test.replace(".java", ""));
        }
        due(page.contains(".ci/run"), README + " does not say how to run the tests");
    }

    public static void main(String[] args) throws Exception {
        String page = Files.readString(README);
        example(page);
        names(page);
        System.out.println(wrong == 0 ? "the page is right" : wrong + " faults of " + README);
        if (wrong != 0) {
            System.exit(1);
        }
    }
}
