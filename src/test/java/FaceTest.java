import java.lang.reflect.Constructor;
import java.lang.reflect.Field;
import java.lang.reflect.Method;
import java.lang.reflect.Modifier;
import java.nio.file.Files;
import java.nio.file.Path;
import java.util.Arrays;
import java.util.Set;
import java.util.TreeSet;
import java.util.regex.Matcher;
import java.util.regex.Pattern;
import java.util.stream.Collectors;

/** The class has the face that the document tells, and nothing else that can be seen. */
public final class FaceTest {
    private static final Path DOCUMENT = Path.of("../shared/DOC.md");
    private static final Path SOURCE = Path.of("src/main/java/SensorTapes.java");
    private static final Pattern FACE = Pattern.compile("(?s)## The public face\\s+```java\n(.*?)```");
    private static final Pattern CALL = Pattern.compile("public int (\\w+)\\((.*)\\);");
    private static final Pattern CONSTANT = Pattern.compile("([A-Z]+) = (-\\d+)");

    private static final Checks checks = new Checks();

    public static void main(String[] args) throws Exception {
        String face = faceOf(Files.readString(DOCUMENT));
        words(face);
        type(face);
        calls(face);
        constants(face);
        constructor(face);
        checks.end();
    }

    private static String faceOf(String document) {
        Matcher m = FACE.matcher(document);
        if (!m.find()) {
            throw new IllegalStateException("the document has no face");
        }
        return m.group(1);
    }

    /** The document's lines stand in the class as they are, with their order and their names. */
    private static void words(String face) throws Exception {
        String source = Files.readString(SOURCE);
        int at = 0;
        for (String line : face.split("\n")) {
            String words = line.trim();
            if (words.endsWith(");")) {
                words = words.substring(0, words.length() - 1) + " {";
            }
            int found = source.indexOf(words, at);
            due("the class has, in the document's order: " + words, found >= 0);
            at = Math.max(at, found);
        }
    }

    private static void type(String face) {
        due("the document asks for public final", face.startsWith("public final class SensorTapes {"));
        due("public and final", SensorTapes.class.getModifiers() == (Modifier.PUBLIC | Modifier.FINAL));
        due("no package", SensorTapes.class.getPackageName().isEmpty());
        due("of Object alone", SensorTapes.class.getSuperclass() == Object.class
            && SensorTapes.class.getInterfaces().length == 0);
    }

    private static void calls(String face) {
        Set<String> wanted = new TreeSet<>();
        Set<String> names = new TreeSet<>();
        Matcher m = CALL.matcher(face);
        while (m.find()) {
            wanted.add(m.group(1) + " " + (m.group(2).isEmpty() ? 0 : m.group(2).split(",").length));
            names.add(m.group(1));
        }
        Set<String> seen = new TreeSet<>();
        for (Method method : SensorTapes.class.getDeclaredMethods()) {
            if (Modifier.isPrivate(method.getModifiers())) {
                due("private " + method.getName() + " bears no public name", !names.contains(method.getName()));
                continue;
            }
            due(method + " is public and no more", method.getModifiers() == Modifier.PUBLIC);
            due(method + " is int of ints", method.getReturnType() == int.class
                && Arrays.stream(method.getParameterTypes()).allMatch(type -> type == int.class));
            due(method + " tells no exception", method.getExceptionTypes().length == 0);
            seen.add(method.getName() + " " + method.getParameterCount());
        }
        due("the calls " + seen + " are " + wanted, seen.equals(wanted));
        checks.due("calls of the document", wanted.size(), 19);
    }

    private static void constants(String face) throws ReflectiveOperationException {
        Set<String> wanted = new TreeSet<>();
        Matcher m = CONSTANT.matcher(face);
        while (m.find()) {
            Field field = SensorTapes.class.getDeclaredField(m.group(1));
            checks.due(m.group(1), field.getInt(null), Integer.parseInt(m.group(2)));
            due(field + " is a public constant of int", field.getType() == int.class
                && field.getModifiers() == (Modifier.PUBLIC | Modifier.STATIC | Modifier.FINAL));
            wanted.add(m.group(1));
        }
        Set<String> seen = Arrays.stream(SensorTapes.class.getDeclaredFields())
            .filter(field -> !Modifier.isPrivate(field.getModifiers())).map(Field::getName)
            .collect(Collectors.toCollection(TreeSet::new));
        due("the constants " + seen + " are " + wanted, seen.equals(wanted));
        checks.due("constants of the document", wanted.size(), 5);
    }

    private static void constructor(String face) {
        due("the document asks for a public constructor", face.contains("public SensorTapes();"));
        Constructor<?>[] makers = SensorTapes.class.getDeclaredConstructors();
        due("one constructor", makers.length == 1 && makers[0].getParameterCount() == 0
            && makers[0].getModifiers() == Modifier.PUBLIC);
    }

    private static void due(String what, boolean holds) {
        checks.due(what, holds ? 1 : 0, 1);
    }
}
