import java.io.IOException;
import java.lang.reflect.InvocationTargetException;
import java.lang.reflect.Method;
import java.lang.reflect.Modifier;
import java.net.URL;
import java.net.URLClassLoader;
import java.nio.file.Files;
import java.nio.file.Path;
import java.util.ArrayList;
import java.util.Comparator;
import java.util.List;
import java.util.regex.MatchResult;
import java.util.regex.Matcher;
import java.util.regex.Pattern;
import java.util.stream.Stream;
import javax.tools.ToolProvider;

/** What README.md shows of the use of the class holds when it is tried, and nothing of the face is left out. */
public final class ReadmeTest {
    private static final Pattern JAVA = Pattern.compile("(?s)```java\n(.*?)```");
    private static final Pattern ANSWERED =
        Pattern.compile("(?m)^ *(rows\\.\\w+\\(.*\\)); *// (-?\\d+|[A-Z]+_[A-Z]+)(:.*)?$");
    private static final Pattern CONSTANT_ROW = Pattern.compile("(?m)^\\| `([A-Z_]+)` \\| (-\\d+) \\|");

    private static final Check check = new Check();

    /** Called by what is made of the page, too. */
    public static void due(String call, long got, long want) {
        check.due(call, got, want);
    }

    public static void main(String[] args) throws IOException, ReflectiveOperationException {
        check.about("README.md");
        String page = Files.readString(Path.of("README.md"));
        int blocks = 0;
        StringBuilder shown = new StringBuilder();
        for (Matcher block = JAVA.matcher(page); block.find(); ) {
            blocks++;
            shown.append(block.group(1));
            tryOut("Shown" + blocks, block.group(1));
        }
        check.same("Java is shown", blocks > 0, true);
        everyCallIsShown(shown.toString());
        constantsAreTold(page);
        everyTestIsTold(page);
        check.end();
    }

    private static void tryOut(String name, String block) throws IOException, ReflectiveOperationException {
        check.about("README.md, " + name);
        check.same("calls with an answer", ANSWERED.matcher(block).results().count(), callsWithWords(block));
        Path directory = Files.createTempDirectory("readme");
        try {
            run(directory, name, ANSWERED.matcher(block).replaceAll(ReadmeTest::compared));
        } finally {
            remove(directory);
        }
    }

    /** Each call with a comment behind it must be read as one with an answer, or it would not be tried. */
    private static long callsWithWords(String block) {
        return block.lines().filter(line -> line.contains("//")).count();
    }

    private static String compared(MatchResult call) {
        String asked = call.group(1);
        String answer = call.group(2);
        String want = answer.contains("_") ? "RisingParts." + answer : answer;
        return Matcher.quoteReplacement("ReadmeTest.due(\"" + asked + "\", " + asked + ", " + want + ");");
    }

    private static void run(Path directory, String name, String body)
            throws IOException, ReflectiveOperationException {
        Path source = directory.resolve(name + ".java");
        String head = "public final class " + name + " {\npublic static void shown() {\n";
        Files.writeString(source, head + body + "}\n}\n");
        int compiled = ToolProvider.getSystemJavaCompiler().run(null, null, null,
            "-d", directory.toString(), "-cp", System.getProperty("java.class.path"), source.toString());
        check.same("how it compiles", compiled, 0);
        if (compiled != 0) {
            return;
        }
        try (URLClassLoader loader = new URLClassLoader(new URL[] {directory.toUri().toURL()})) {
            loader.loadClass(name).getMethod("shown").invoke(null);
        } catch (InvocationTargetException thrown) {
            check.same("what is thrown", thrown.getCause(), null);
        }
    }

    private static void remove(Path directory) throws IOException {
        List<Path> paths = new ArrayList<>();
        try (Stream<Path> found = Files.walk(directory)) {
            found.sorted(Comparator.reverseOrder()).forEach(paths::add);
        }
        for (Path path : paths) {
            Files.delete(path);
        }
    }

    private static void everyCallIsShown(String shown) {
        check.about("README.md, calls");
        for (Method method : RisingParts.class.getDeclaredMethods()) {
            if (Modifier.isPublic(method.getModifiers())) {
                check.same(method.getName() + " is shown", shown.contains("rows." + method.getName() + "("), true);
            }
        }
    }

    private static void constantsAreTold(String page) throws ReflectiveOperationException {
        check.about("README.md, constants");
        int told = 0;
        for (Matcher row = CONSTANT_ROW.matcher(page); row.find(); ) {
            told++;
            int value = RisingParts.class.getField(row.group(1)).getInt(null);
            check.due(row.group(1), Integer.parseInt(row.group(2)), value);
        }
        check.same("constants that are told", told, RisingParts.class.getFields().length);
    }

    private static void everyTestIsTold(String page) throws IOException {
        check.about("README.md, tests");
        try (Stream<Path> tests = Files.list(Path.of("src/test/java"))) {
            tests.map(test -> test.getFileName().toString().replace(".java", ""))
                .forEach(name -> check.same(name + " is told", page.contains("`" + name + "`"), true));
        }
    }
}
