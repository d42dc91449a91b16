import java.io.PrintWriter;
import java.io.StringWriter;
import java.lang.reflect.Field;
import java.lang.reflect.Method;
import java.lang.reflect.Modifier;
import java.nio.file.Files;
import java.nio.file.Path;
import java.util.ArrayList;
import java.util.Arrays;
import java.util.HashSet;
import java.util.List;
import java.util.Map;
import java.util.Set;
import java.util.TreeMap;
import java.util.TreeSet;
import java.util.regex.Matcher;
import java.util.regex.Pattern;
import java.util.spi.ToolProvider;

/** The rules of LANGUAGE.md that a program can look at, in the class's text and in what javac makes of it. */
public final class LanguageTest {
    private static final Path SOURCE = Path.of("src/main/java/SensorTapes.java");
    private static final String[] RULED_OUT = {"throw", "throws", "try", "catch", "finally", "synchronized", "assert",
        "import", "package", "protected", "volatile", "native", "Random", "Thread", "Object", "currentTimeMillis",
        "nanoTime", "instanceof", "->", "::", "@"};
    // Of the library that rule 4 allows, what the class uses; whoever uses more of it adds it here.
    private static final Set<String> LIBRARY = Set.of("java/lang/Object.<init>", "java/lang/Math.min",
        "java/lang/Math.max", "java/lang/Math.abs", "java/lang/System.arraycopy");
    private static final int MOST_DEEP = 8;
    private static final int MOST_PARAMETERS = 7;
    private static final int MOST_LINES = 60;
    private static final int MOST_CLASSES = 12;
    private static final int MOST_FIELDS = 20;

    private static final Pattern HEADER = Pattern.compile("  (?:\\S.* )?([\\w$]+)\\(.*\\);");
    private static final Pattern CALLED = Pattern.compile("// (?:Interface)?Method (?:([\\w$/]+)\\.)?\"?([\\w$<>]+)\"?:.*");
    private static final Pattern OPENED = Pattern.compile("( {4}| {8})[^\\s/*}].*\\) \\{");

    private static final Checks checks = new Checks();
    private static final List<Class<?>> classes = new ArrayList<>();
    private static final Map<String, Set<String>> calls = new TreeMap<>();

    public static void main(String[] args) throws Exception {
        classes.add(SensorTapes.class);
        classes.addAll(Arrays.asList(SensorTapes.class.getDeclaredClasses()));
        for (Class<?> c : classes) {
            members(c);
            code(c.getName());
        }
        due("at most " + MOST_CLASSES + " classes", classes.size() <= MOST_CLASSES);
        library();
        depth();
        words();
        lines();
        checks.end();
    }

    private static void members(Class<?> c) {
        boolean inside = c != SensorTapes.class;
        int seen = c.getModifiers() & (Modifier.PUBLIC | Modifier.PROTECTED);
        due(c + " is static and not public", !inside || Modifier.isStatic(c.getModifiers()) && seen == 0);
        due(c + " has no classes inside", !inside || c.getDeclaredClasses().length == 0);
        due(c + " is no record or enum", c.getSuperclass() == Object.class);
        int fields = 0;
        for (Field field : c.getDeclaredFields()) {
            boolean constant = Modifier.isStatic(field.getModifiers());
            fields += constant ? 0 : 1;
            due(field + " is a constant of int, if static",
                !constant || Modifier.isFinal(field.getModifiers()) && field.getType() == int.class);
            due(field + " is of a type that is allowed", isAllowed(field.getType()));
        }
        due(c + " has at most " + MOST_FIELDS + " fields", fields <= MOST_FIELDS);
        for (Method method : c.getDeclaredMethods()) {
            due(method + " takes at most " + MOST_PARAMETERS, method.getParameterCount() <= MOST_PARAMETERS);
        }
    }

    private static boolean isAllowed(Class<?> type) {
        Class<?> of = type.isArray() ? type.getComponentType() : type;
        return of == int.class || of == boolean.class || classes.contains(of);
    }

    /** Gathers who calls whom, and looks at what each method is made of. */
    private static void code(String name) {
        String method = "";
        for (String line : takenApart(name).split("\n")) {
            Matcher header = HEADER.matcher(line);
            if (header.matches()) {
                method = name + "." + (header.group(1).equals(name) ? "<init>" : header.group(1));
                due(method + " has a name of its own", calls.put(method, new TreeSet<>()) == null);
                continue;
            }
            due(name + " has no static block", !line.startsWith("  static {"));
            due(name + " catches nothing", !line.contains("Exception table"));
            String[] parts = line.trim().split("\\s+", 3);
            if (parts.length > 1 && parts[0].matches("\\d+:")) {
                instruction(method, parts[1], line);
            }
        }
    }

    private static void instruction(String method, String op, String line) {
        boolean makes = op.equals("new") || op.endsWith("newarray");
        due(method + " makes nothing: " + line, !makes || method.endsWith(".<init>"));
        due(method + " does not " + op, !Set.of("athrow", "monitorenter", "invokedynamic", "checkcast").contains(op));
        Matcher called = CALLED.matcher(line);
        if (called.find()) {
            String owner = called.group(1) == null ? method.substring(0, method.lastIndexOf('.')) : called.group(1);
            calls.get(method).add(owner + "." + called.group(2));
        }
    }

    private static String takenApart(String name) {
        StringWriter text = new StringWriter();
        ToolProvider javap = ToolProvider.findFirst("javap").orElseThrow();
        String folder = SensorTapes.class.getProtectionDomain().getCodeSource().getLocation().getPath();
        int exit = javap.run(new PrintWriter(text), new PrintWriter(System.err), "-c", "-p", "-cp", folder, name);
        checks.due("javap of " + name, exit, 0);
        return text.toString();
    }

    private static void library() {
        int found = 0;
        for (Map.Entry<String, Set<String>> entry : calls.entrySet()) {
            for (String called : entry.getValue()) {
                found++;
                due(entry.getKey() + " calls " + called, calls.containsKey(called) || LIBRARY.contains(called));
            }
        }
        due("calls were found", found > 50);
    }

    private static void depth() {
        for (Method method : SensorTapes.class.getDeclaredMethods()) {
            String name = "SensorTapes." + method.getName();
            int deep = deepest(name, new HashSet<>());
            due(name + " goes " + deep + " deep", deep <= MOST_DEEP);
        }
    }

    private static int deepest(String method, Set<String> open) {
        if (!calls.containsKey(method)) {
            return 1;
        }
        boolean isNew = open.add(method);
        due(method + " does not call itself", isNew);
        int most = 0;
        for (String called : isNew ? calls.get(method) : Set.<String>of()) {
            most = Math.max(most, deepest(called, open));
        }
        open.remove(method);
        return most + 1;
    }

    private static void words() throws Exception {
        String source = Files.readString(SOURCE);
        String code = source.replaceAll("(?s)/\\*.*?\\*/", " ").replaceAll("//[^\n]*", " ");
        Set<String> words = new TreeSet<>(Arrays.asList(code.split("[^A-Za-z0-9_]+")));
        for (String word : RULED_OUT) {
            boolean sign = !Character.isLetter(word.charAt(0));
            due("no " + word, sign ? !code.contains(word) : !words.contains(word));
        }
        due("plain signs alone", source.chars().allMatch(c -> c == '\n' || c >= 32 && c < 127));
    }

    private static void lines() throws Exception {
        List<String> lines = Files.readAllLines(SOURCE);
        int found = 0;
        for (int i = 0; i < lines.size(); i++) {
            Matcher m = OPENED.matcher(lines.get(i));
            if (m.matches()) {
                found++;
                int many = lines.subList(i, lines.size()).indexOf(m.group(1) + "}") + 1;
                due(lines.get(i).trim() + " has " + many + " lines", many > 0 && many <= MOST_LINES);
            }
        }
        due("methods were found", found > 50);
    }

    private static void due(String what, boolean holds) {
        checks.due(what, holds ? 1 : 0, 1);
    }
}
