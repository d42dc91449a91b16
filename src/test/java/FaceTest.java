import java.lang.reflect.Constructor;
import java.lang.reflect.Field;
import java.lang.reflect.Method;
import java.lang.reflect.Modifier;
import java.nio.file.Files;
import java.nio.file.Path;
import java.util.Arrays;
import java.util.Set;
import java.util.TreeSet;

/** The public face is the document's and nothing else; what LANGUAGE.md rules out is not used. */
public final class FaceTest {
    private static final Set<String> CALLS = Set.of("rule 2", "add 1", "clear 0", "sample 1", "ahead 3", "cost 3",
        "block 2", "packed 1", "lost 1", "tape 0", "push 1", "flip 1", "cut 1", "bit 1", "read 1", "fault 1",
        "image 1", "restore 1", "count 1");
    private static final Set<String> CONSTANTS = Set.of("OUTSIDE", "STATE", "FULL", "NONE", "FAULT");
    private static final String[] RULED_OUT = {"throw", "throws", "try", "catch", "synchronized", "assert", "import",
        "protected", "Random", "Thread", "currentTimeMillis", "nanoTime", "->", "::"};

    private static final Checks checks = new Checks();

    public static void main(String[] args) throws Exception {
        face();
        classesInside();
        text();
        checks.end();
    }

    private static void face() {
        due("public and final", Modifier.toString(SensorTapes.class.getModifiers()).equals("public final"));
        Set<String> calls = new TreeSet<>();
        for (Method m : SensorTapes.class.getDeclaredMethods()) {
            if (Modifier.isPrivate(m.getModifiers())) {
                due("private " + m.getName() + " bears no public name",
                    CALLS.stream().noneMatch(call -> call.startsWith(m.getName() + " ")));
                continue;
            }
            due(m + " is int of ints", m.getModifiers() == Modifier.PUBLIC && m.getReturnType() == int.class
                && Arrays.stream(m.getParameterTypes()).allMatch(type -> type == int.class));
            calls.add(m.getName() + " " + m.getParameterCount());
        }
        due("the calls: " + calls, calls.equals(CALLS));
        for (Field f : SensorTapes.class.getDeclaredFields()) {
            boolean constant = CONSTANTS.contains(f.getName());
            int wanted = constant ? Modifier.PUBLIC : Modifier.PRIVATE;
            due(f + " is as visible as it should be", (f.getModifiers() & wanted) != 0);
            due(f + " is final, if static", !Modifier.isStatic(f.getModifiers()) || Modifier.isFinal(f.getModifiers()));
            due(f + " is static, if public", !constant || Modifier.isStatic(f.getModifiers()));
        }
        Constructor<?>[] makers = SensorTapes.class.getDeclaredConstructors();
        due("one constructor", makers.length == 1 && makers[0].getParameterCount() == 0
            && makers[0].getModifiers() == Modifier.PUBLIC);
    }

    private static void classesInside() {
        Class<?>[] inside = SensorTapes.class.getDeclaredClasses();
        due("at most twelve classes", inside.length < 12);
        for (Class<?> c : inside) {
            int seen = c.getModifiers() & (Modifier.PUBLIC | Modifier.PROTECTED);
            due(c + " is static and not public", Modifier.isStatic(c.getModifiers()) && seen == 0);
            due(c + " has few fields", c.getDeclaredFields().length <= 20);
        }
    }

    private static void text() throws Exception {
        String source = Files.readString(Path.of("src/main/java/SensorTapes.java"));
        String code = source.replaceAll("(?s)/\\*.*?\\*/", " ").replaceAll("//[^\n]*", " ");
        Set<String> words = new TreeSet<>(Arrays.asList(code.split("[^A-Za-z0-9_]+")));
        for (String word : RULED_OUT) {
            boolean sign = !Character.isLetter(word.charAt(0));
            due("no " + word, sign ? !code.contains(word) : !words.contains(word));
        }
        due("plain signs alone", source.chars().allMatch(c -> c == '\n' || c >= 32 && c < 127));
    }

    private static void due(String what, boolean holds) {
        checks.due(what, holds ? 1 : 0, 1);
    }
}
