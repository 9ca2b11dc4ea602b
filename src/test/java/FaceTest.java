import java.io.IOException;
import java.lang.reflect.Constructor;
import java.lang.reflect.Field;
import java.lang.reflect.Method;
import java.lang.reflect.Modifier;
import java.nio.file.Files;
import java.nio.file.Path;
import java.util.Arrays;
import java.util.List;
import java.util.Set;
import java.util.TreeSet;
import java.util.regex.Matcher;
import java.util.regex.Pattern;
import java.util.stream.Collectors;

/** The class has the document's face and no other, and keeps to the rules of LANGUAGE.md that can be seen from outside. */
public final class FaceTest {
    private static final List<String> FACE = List.of("int feed(int,int,int,int,int)", "int text(int)", "int fault(int)",
        "int named(int,int)", "int look(int,int)", "int street(int,int)", "int pipe(int,int)",
        "boolean lay(int,int,int,int,int)", "boolean take(int)", "int net(int,int)", "long carries(int)",
        "long cost(int,int)", "long all()", "int broken(int)", "int judged(int)", "long flow(int,int,int)",
        "long flooded(int,int,int)", "long floods(int)", "long worst(int,int)", "int burst(int)", "int bursts()",
        "long cheapest(int)", "boolean laid(int)", "long tree(int)", "long without(int,int)", "long stages(int)",
        "long stage(int,int)", "int first(int)", "int undo()", "int keep()", "int back()", "int count(int)");
    private static final List<String> FORBIDDEN = List.of("->", "::", "finally", "synchronized", "assert ", "Exact",
        "protected ", "double", "float", "System.out", "catch", "lambda", " var ", "volatile", "record ");

    private FaceTest() { }

    public static void main(String[] args) throws IOException {
        Checks checks = new Checks();
        checkFace(checks);
        checkClasses(checks);
        checkSource(checks, Files.readString(Path.of("src/main/java/RiverDrains.java")));
        checks.end();
    }

    private static void checkFace(Checks checks) {
        Set<String> seen = new TreeSet<>();
        Set<String> hidden = new TreeSet<>();
        for (Method m : RiverDrains.class.getDeclaredMethods()) {
            if (Modifier.isPrivate(m.getModifiers())) {
                hidden.add(m.getName());
                continue;
            }
            seen.add(m.getReturnType() + " " + m.getName() + Arrays.stream(m.getParameterTypes())
                .map(Class::getName).collect(Collectors.joining(",", "(", ")")));
            checks.due(m.getName() + " is public", Modifier.isPublic(m.getModifiers()), true);
        }
        checks.due("the face is " + seen, seen.equals(new TreeSet<>(FACE)), true);
        for (String face : FACE) {
            String name = face.substring(face.indexOf(' ') + 1, face.indexOf('('));
            checks.due(name + " is no private method, too", hidden.contains(name), false);
        }
        for (Field f : RiverDrains.class.getDeclaredFields()) {
            checks.due(f.getName() + " is private", Modifier.isPrivate(f.getModifiers()), !f.getName().equals("NONE"));
        }
        for (Constructor<?> c : RiverDrains.class.getDeclaredConstructors()) {
            checks.due("the constructor takes", c.getParameterCount(), 0);
        }
        checks.due("the class is public and final", RiverDrains.class.getModifiers(), Modifier.PUBLIC | Modifier.FINAL);
        checks.due("NONE", RiverDrains.NONE, -1);
    }

    private static void checkClasses(Checks checks) {
        Class<?>[] inside = RiverDrains.class.getDeclaredClasses();
        checks.due("at most twelve classes", inside.length + 1 <= 12, true);
        for (Class<?> c : inside) {
            checks.due(c + " is static", Modifier.isStatic(c.getModifiers()), true);
            checks.due(c + " is hidden", Modifier.isPublic(c.getModifiers()) || Modifier.isProtected(c.getModifiers()), false);
            long fields = Arrays.stream(c.getDeclaredFields()).filter(f -> !Modifier.isStatic(f.getModifiers())).count();
            checks.due(c + " has at most twenty fields, not " + fields, fields <= 20, true);
            for (Method m : c.getDeclaredMethods()) {
                checks.due(m + " bears a name of the face", FACE.stream().anyMatch(f -> f.contains(" " + m.getName() + "(")), false);
                checks.due(m + " takes at most seven", m.getParameterCount() <= 7, true);
            }
        }
    }

    private static void checkSource(Checks checks, String source) {
        String code = source.replaceAll("(?s)/\\*.*?\\*/", "").replaceAll("//[^\n]*", "");
        for (String word : FORBIDDEN) {
            checks.due("the source has " + word, code.contains(word), false);
        }
        Matcher statics = Pattern.compile("static (?!final|int |long |boolean |void )").matcher(code);
        checks.due("a static that is not final", statics.find(), false);
        Matcher joins = Pattern.compile("\"\\s*\\+|\\+\\s*\"").matcher(code);
        checks.due("a text joined by +", joins.find(), false);
        checks.due("signs beyond 127", code.chars().anyMatch(sign -> sign > 127), false);
        for (String line : source.split("\n")) {
            checks.due("a line of at most 130: " + line, line.length() <= 130, true);
            if (line.startsWith("import ")) {
                checks.due(line, Set.of("import java.util.Arrays;", "import java.util.NoSuchElementException;").contains(line), true);
            }
        }
    }
}
