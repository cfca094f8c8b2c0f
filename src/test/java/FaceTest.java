import java.io.IOException;
import java.lang.reflect.Constructor;
import java.lang.reflect.Field;
import java.lang.reflect.Method;
import java.lang.reflect.Modifier;
import java.nio.file.Files;
import java.nio.file.Path;
import java.util.Arrays;
import java.util.List;
import java.util.Set;
import java.util.TreeSet;
import java.util.regex.Matcher;
import java.util.regex.Pattern;
import java.util.stream.Collectors;

/** The face is the document's. */
public final class FaceTest {
    private static final Path DOC = Path.of("../shared/DOC.md");

    private FaceTest() {
    }

    private static String declared(Method method) {
        return Modifier.toString(method.getModifiers()) + " " + method.getReturnType().getName() + " "
                + method.getName() + types(method.getParameterTypes()) + " throws "
                + types(method.getExceptionTypes());
    }

    private static String types(Class<?>[] types) {
        return Arrays.stream(types).map(Class::getSimpleName).collect(Collectors.toList()).toString();
    }

    private static Set<String> promised() throws IOException {
        String doc = Files.readString(DOC);
        String face = doc.substring(doc.indexOf("public final class"), doc.indexOf("## Terms"));
        Matcher line = Pattern.compile("public (\\w+) (\\w+)\\((.*?)\\)(?: throws (.*))?;").matcher(face);
        Set<String> promised = new TreeSet<>();
        while (line.find()) {
            List<String> types = Arrays.stream(line.group(3).split(", ")).filter(one -> !one.isEmpty())
                    .map(one -> one.split(" ")[0]).collect(Collectors.toList());
            String thrown = line.group(4) == null ? "" : line.group(4);
            promised.add("public " + line.group(1) + " " + line.group(2) + types + " throws [" + thrown + "]");
        }
        return promised;
    }

    private static void face() throws IOException {
        Set<String> open = new TreeSet<>();
        Set<String> openNames = new TreeSet<>();
        for (Method method : Housestyle.class.getDeclaredMethods()) {
            if (!Modifier.isPrivate(method.getModifiers())) {
                open.add(declared(method));
                openNames.add(method.getName());
            }
        }
        Checks.due("the face", open, promised());
        for (Method method : Housestyle.class.getDeclaredMethods()) {
            boolean isPrivate = Modifier.isPrivate(method.getModifiers());
            Checks.due("a private method with a public name: " + method.getName(),
                    isPrivate && openNames.contains(method.getName()), false);
        }
        Constructor<?>[] made = Housestyle.class.getDeclaredConstructors();
        Checks.due("the constructor", made.length + Modifier.toString(made[0].getModifiers())
                + made[0].getParameterCount(), "1public0");
        Checks.due("the class", Modifier.toString(Housestyle.class.getModifiers()), "public final");
        for (Field field : Housestyle.class.getDeclaredFields()) {
            Checks.due("private " + field.getName(), Modifier.isPrivate(field.getModifiers()), true);
        }
    }

    public static void main(String[] args) throws IOException {
        face();
        Checks.end("FaceTest");
    }
}
