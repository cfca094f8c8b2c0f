import java.io.IOException;
import java.lang.reflect.Constructor;
import java.lang.reflect.Method;
import java.lang.reflect.Modifier;
import java.nio.file.Files;
import java.nio.file.Path;
import java.util.Arrays;
import java.util.List;
import java.util.Set;
import java.util.TreeSet;
import java.util.regex.Matcher;
import java.util.regex.Pattern;
import java.util.stream.Collectors;

/** The face is the document's, and the source keeps to what of LANGUAGE.md can be seen without a compiler. */
public final class FaceTest {
    private static final Path DOC = Path.of("../shared/DOC.md");
    private static final Path SOURCE = Path.of("src/main/java/Housestyle.java");
    private static final String[] FORBIDDEN = {"\\bcatch\\b", "\\btry\\b", "\\bfinally\\b", "->", "::",
        "\\bsynchronized\\b", "\\bassert\\b", "\\bprotected\\b", "\\bpackage\\b", "\\bMath\\.\\w+Exact\\b",
        "\\bSystem\\.", "\\bRandom\\b", "\\bThread\\b", "\\bwhile\\b", "\\[\\]\\s*\\[\\]\\s*\\[\\]", "\\.equals\\("};
    private static final Set<String> IMPORTS = Set.of("java.util.ArrayList", "java.util.NoSuchElementException");

    private FaceTest() {
    }

    private static String declared(Method method) {
        return Modifier.toString(method.getModifiers()) + " " + method.getReturnType().getName() + " "
                + method.getName() + types(method.getParameterTypes()) + " throws "
                + types(method.getExceptionTypes());
    }

    private static String types(Class<?>[] types) {
        return Arrays.stream(types).map(Class::getSimpleName).collect(Collectors.toList()).toString();
    }

    private static Set<String> promised() throws IOException {
        String doc = Files.readString(DOC);
        String face = doc.substring(doc.indexOf("public final class"), doc.indexOf("## Terms"));
        Matcher line = Pattern.compile("public (\\w+) (\\w+)\\((.*?)\\)(?: throws (.*))?;").matcher(face);
        Set<String> promised = new TreeSet<>();
        while (line.find()) {
            List<String> types = Arrays.stream(line.group(3).split(", ")).filter(one -> !one.isEmpty())
                    .map(one -> one.split(" ")[0]).collect(Collectors.toList());
            String thrown = line.group(4) == null ? "" : line.group(4);
            promised.add("public " + line.group(1) + " " + line.group(2) + types + " throws [" + thrown + "]");
        }
        return promised;
    }

    private static void face() throws IOException {
        Set<String> open = new TreeSet<>();
        Set<String> openNames = new TreeSet<>();
        for (Method method : Housestyle.class.getDeclaredMethods()) {
            if (!Modifier.isPrivate(method.getModifiers())) {
                open.add(declared(method));
                openNames.add(method.getName());
            }
        }
        Checks.due("the face", open, promised());
        for (Method method : Housestyle.class.getDeclaredMethods()) {
            boolean isPrivate = Modifier.isPrivate(method.getModifiers());
            Checks.due("a private method with a public name: " + method.getName(),
                    isPrivate && openNames.contains(method.getName()), false);
        }
        Constructor<?>[] made = Housestyle.class.getDeclaredConstructors();
        Checks.due("the constructor", made.length + Modifier.toString(made[0].getModifiers())
                + made[0].getParameterCount(), "1public0");
        Checks.due("the class", Modifier.toString(Housestyle.class.getModifiers()), "public final");
        for (java.lang.reflect.Field field : Housestyle.class.getDeclaredFields()) {
            Checks.due("private " + field.getName(), Modifier.isPrivate(field.getModifiers()), true);
        }
        Checks.due("at most twelve classes", Housestyle.class.getDeclaredClasses().length < 12, true);
    }

    private static void source() throws IOException {
        String source = Files.readString(SOURCE);
        for (String line : source.split("\n")) {
            Matcher imported = Pattern.compile("import (.*);").matcher(line);
            Checks.due("import " + line, !imported.matches() || IMPORTS.contains(imported.group(1)), true);
        }
        String code = source.replaceAll("(?s)/\\*.*?\\*/", "").replaceAll("(?m)//.*$", "")
                .replaceAll("\"[^\"\n]*\"", "\"\"");
        for (String forbidden : FORBIDDEN) {
            Checks.due("the source has " + forbidden, Pattern.compile(forbidden).matcher(code).find(), false);
        }
    }

    public static void main(String[] args) throws IOException {
        face();
        source();
        Checks.end("FaceTest");
    }
}
