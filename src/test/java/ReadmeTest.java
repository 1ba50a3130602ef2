import java.io.IOException;
import java.lang.reflect.InvocationTargetException;
import java.lang.reflect.Method;
import java.lang.reflect.Modifier;
import java.net.URL;
import java.net.URLClassLoader;
import java.nio.file.Files;
import java.nio.file.Path;
import java.util.TreeSet;
import java.util.function.ObjLongConsumer;
import java.util.regex.Matcher;
import java.util.regex.Pattern;
import java.util.stream.Collectors;
import java.util.stream.Stream;
import javax.tools.ToolProvider;

/** That README.md tells the truth: its example compiles and answers what stands beside it; no call is left out. */
public final class ReadmeTest {
    private static final Pattern EXAMPLE = Pattern.compile("(?s)```java\n(.*?)```");
    private static final Pattern ANSWER = Pattern.compile("(?m)^(oven\\..*\\));\\s*// = (-?\\d+)\\s.*$");
    private static final Due due = new Due("ReadmeTest");

    public static void main(String[] args) throws Exception {
        String text = Files.readString(Path.of("README.md"));
        namesEveryCall(text);
        namesEveryTest(text);
        runExample(text);
        due.end();
    }

    private static void namesEveryCall(String text) {
        String table = text.lines().filter(line -> line.startsWith("|")).collect(Collectors.joining("\n"));
        TreeSet<String> names = new TreeSet<>();
        for (Method method : BrickOven.class.getDeclaredMethods()) {
            if (Modifier.isPublic(method.getModifiers())) {
                names.add(method.getName());
            }
        }
        due.is("calls", names.size(), 30);
        for (String name : names) {
            due.holds("the table of calls has " + name, table.contains("`" + name + "`"));
        }
        for (String name : new String[] {"UNKNOWN", "OUTSIDE", "STATE", "FULL", "NO", "NONE", "GONE"}) {
            due.holds("README.md says what " + name + " is", text.contains("`" + name + "`"));
        }
    }

    private static void namesEveryTest(String text) throws IOException {
        due.holds("README.md says how to run all tests", text.contains("\n    .ci/run\n"));
        try (Stream<Path> files = Files.list(Path.of("src/test/java"))) {
            files.map(file -> file.getFileName().toString()).filter(name -> name.endsWith("Test.java"))
                .map(name -> name.substring(0, name.length() - ".java".length()))
                .forEach(name -> due.holds("README.md tells of " + name, text.contains("- `" + name + "`: ")));
        }
    }

    private static void runExample(String text) throws Exception {
        Matcher example = EXAMPLE.matcher(text);
        due.holds("there is an example", example.find());
        String code = example.group(1);
        long promised = code.lines().filter(line -> line.contains("// = ")).count();
        due.is("answers that the test can read", ANSWER.matcher(code).results().count(), promised);
        due.holds("the example has answers", promised > 0);
        Path work = Files.createTempDirectory("readme");
        try {
            if (compile(work, code)) {
                run(work);
            }
        } finally {
            clear(work);
        }
    }

    /** The example as it stands, but that each answer told beside a call is handed on with the one it gave. */
    private static boolean compile(Path work, String code) throws IOException {
        String asked = ANSWER.matcher(code).replaceAll("tell.accept(\"$1 = $2\", $1);");
        Path source = work.resolve("Example.java");
        Files.writeString(source, "public final class Example {\n"
            + "public static void run(java.util.function.ObjLongConsumer<String> tell) {\n" + asked + "}\n}\n");
        String path = System.getProperty("java.class.path");
        int failed = ToolProvider.getSystemJavaCompiler()
            .run(null, null, null, "-cp", path, "-d", work.toString(), source.toString());
        due.is("compiling the example", failed, 0);
        return failed == 0;
    }

    private static void run(Path work) throws Exception {
        ObjLongConsumer<String> tell = (told, got) ->
            due.is(told, got, Long.parseLong(told.substring(told.lastIndexOf(' ') + 1)));
        try (URLClassLoader loader = new URLClassLoader(new URL[] {work.toUri().toURL()})) {
            loader.loadClass("Example").getMethod("run", ObjLongConsumer.class).invoke(null, tell);
        } catch (InvocationTargetException thrown) {
            due.holds("the example threw " + thrown.getCause(), false);
        }
    }

    private static void clear(Path work) throws IOException {
        try (Stream<Path> files = Files.list(work)) {
            for (Path file : files.toArray(Path[]::new)) {
                Files.delete(file);
            }
        }
        Files.delete(work);
    }
}
