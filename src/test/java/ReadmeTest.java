import java.io.ByteArrayOutputStream;
import java.io.IOException;
import java.io.PrintStream;
import java.lang.reflect.InvocationTargetException;
import java.lang.reflect.Method;
import java.lang.reflect.Modifier;
import java.net.URL;
import java.net.URLClassLoader;
import java.nio.charset.StandardCharsets;
import java.nio.file.Files;
import java.nio.file.Path;
import java.util.Comparator;
import java.util.List;
import java.util.regex.Matcher;
import java.util.regex.Pattern;
import java.util.stream.Collectors;
import java.util.stream.Stream;
import javax.tools.ToolProvider;

/** What README.md tells works: its program prints what stands there, and all calls and tests are named. */
public final class ReadmeTest {
    private static final Path README = Path.of("README.md");
    private static final Path SOURCE = Path.of("src/main/java/Housestyle.java");
    private static final Path TESTS = Path.of("src/test/java");

    private ReadmeTest() {
    }

    private static String found(String page, String pattern) {
        Matcher matcher = Pattern.compile(pattern, Pattern.DOTALL).matcher(page);
        boolean isThere = matcher.find();
        Checks.due("README.md has " + pattern, isThere, true);
        return isThere ? matcher.group(1) : "";
    }

    private static String printedBy(String program, Path room) throws IOException, ReflectiveOperationException {
        Path file = room.resolve("Sample.java");
        Files.writeString(file, program);
        int code = ToolProvider.getSystemJavaCompiler().run(null, null, null, "-d", room.toString(), SOURCE.toString(),
                file.toString());
        Checks.due("javac of README.md's program", code, 0);
        if (code != 0) {
            return "";
        }
        PrintStream before = System.out;
        ByteArrayOutputStream printed = new ByteArrayOutputStream();
        // The platform's loader does not see this test's own classes, so that those just compiled are taken.
        try (URLClassLoader loader = new URLClassLoader(new URL[] {room.toUri().toURL()},
                ClassLoader.getPlatformClassLoader());
                PrintStream out = new PrintStream(printed, true, StandardCharsets.US_ASCII)) {
            System.setOut(out);
            loader.loadClass("Sample").getMethod("main", String[].class).invoke(null, (Object) new String[0]);
        } catch (InvocationTargetException e) {
            Checks.due("README.md's program", String.valueOf(e.getCause()), "no exception");
        } finally {
            System.setOut(before);
        }
        return printed.toString(StandardCharsets.US_ASCII).replace(System.lineSeparator(), "\n");
    }

    private static void program(String page) throws IOException, ReflectiveOperationException {
        Path room = Files.createTempDirectory("readme");
        try {
            String printed = printedBy(found(page, "```java\n(.*?)```"), room);
            Checks.due("README.md's program", printed, found(page, "It prints\n\n```\n(.*?)```"));
        } finally {
            try (Stream<Path> files = Files.walk(room)) {
                for (Path file : files.sorted(Comparator.reverseOrder()).collect(Collectors.toList())) {
                    Files.delete(file);
                }
            }
        }
    }

    private static void names(String page) throws IOException {
        for (Method method : Housestyle.class.getDeclaredMethods()) {
            if (Modifier.isPublic(method.getModifiers())) {
                String call = "`" + method.getName() + "\\(" + "\\w+, ".repeat(Math.max(0, method.getParameterCount() - 1))
                        + (method.getParameterCount() == 0 ? "" : "\\w+") + "\\)`";
                Checks.due("README.md names " + call, Pattern.compile(call).matcher(page).find(), true);
            }
        }
        List<Path> tests;
        try (Stream<Path> files = Files.list(TESTS)) {
            tests = files.collect(Collectors.toList());
        }
        for (Path test : tests) {
            Checks.due("README.md names " + test, page.contains(test.getFileName().toString()), true);
        }
        Matcher named = Pattern.compile("`src/test/java/(\\w+\\.java)`").matcher(page);
        while (named.find()) {
            Checks.due("there is " + named.group(1), Files.exists(TESTS.resolve(named.group(1))), true);
        }
    }

    public static void main(String[] args) throws IOException, ReflectiveOperationException {
        String page = Files.readString(README);
        program(page);
        names(page);
        Checks.end("ReadmeTest");
    }
}
