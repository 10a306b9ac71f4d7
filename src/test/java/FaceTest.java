import java.io.IOException;
import java.lang.reflect.Constructor;
import java.lang.reflect.Field;
import java.lang.reflect.Method;
import java.lang.reflect.Modifier;
import java.nio.file.Files;
import java.nio.file.Path;
import java.util.Arrays;
import java.util.HashMap;
import java.util.List;
import java.util.Map;
import java.util.Set;
import java.util.TreeSet;
import java.util.regex.Matcher;
import java.util.regex.Pattern;

/** The public face, the constants, and those rules of ../shared/LANGUAGE.md that can be seen from outside. */
public final class FaceTest {
    private static final Check CHECK = new Check("FaceTest");
    private static final String INDEX = "IndexOutOfBoundsException";
    private static final String ARGUMENT = "IllegalArgumentException";
    private static final String STATE = "IllegalStateException";

    private static final List<String> FACE = List.of(
            call("void place", 3, INDEX, ARGUMENT), call("int moon", 1, ARGUMENT),
            call("void weather", 5, INDEX, ARGUMENT), call("void fault", 4, INDEX, ARGUMENT),
            call("int mount", 3, INDEX, STATE), call("boolean calibrate", 3, INDEX),
            call("int height", 5, INDEX, ARGUMENT), call("int light", 1, INDEX), call("int seeing", 3, INDEX),
            call("int share", 2, INDEX, ARGUMENT), call("int proposal", 4, INDEX, ARGUMENT, STATE),
            call("int target", 9, INDEX, ARGUMENT, STATE), call("void series", 4, INDEX, ARGUMENT, STATE),
            call("int alert", 9, INDEX, ARGUMENT, STATE), call("boolean wants", 2, INDEX),
            call("int chances", 3, INDEX), call("int run", 1, ARGUMENT), call("int now", 0),
            call("int goingOn", 2, INDEX, ARGUMENT), call("int waiting", 0), call("int visits", 1, INDEX),
            call("boolean served", 1, INDEX), call("int slots", 2, INDEX), call("int lost", 2, INDEX),
            call("int data", 0), call("int datum", 2, INDEX, ARGUMENT), call("boolean reads", 3, INDEX),
            call("int replay", 1, INDEX, STATE), call("int bestOrder", 2, INDEX));

    private static String call(String start, int arguments, String... thrown) {
        return start + " " + arguments + " " + String.join(" ", thrown);
    }

    public static void main(String[] args) throws IOException {
        constants();
        face();
        members();
        insides();
        String source = Files.readString(Path.of("src/main/java/Cloudseed.java"));
        text(source);
        library(source);
        depth(source);
        CHECK.end();
    }

    private static void constants() {
        CHECK.due("NONE", Cloudseed.NONE, -1);
        CHECK.due("IDLE", Cloudseed.IDLE, 0);
        CHECK.due("TARGET", Cloudseed.TARGET, 1);
        CHECK.due("ALERT", Cloudseed.ALERT, 2);
    }

    private static void face() {
        TreeSet<String> got = new TreeSet<>();
        for (Method m : Cloudseed.class.getDeclaredMethods()) {
            if (Modifier.isPublic(m.getModifiers())) {
                String[] thrown = Arrays.stream(m.getExceptionTypes()).map(Class::getSimpleName).toArray(String[]::new);
                got.add(call(m.getReturnType() + " " + m.getName(), m.getParameterCount(), thrown));
            }
        }
        CHECK.due("the public methods " + got, got.equals(new TreeSet<>(FACE)), true);
        CHECK.due("the class is public and final", Cloudseed.class.getModifiers(), Modifier.PUBLIC | Modifier.FINAL);
        Constructor<?>[] made = Cloudseed.class.getDeclaredConstructors();
        CHECK.due("one constructor", made.length, 1);
        CHECK.due("which is public, without arguments", Modifier.isPublic(made[0].getModifiers())
                && made[0].getParameterCount() == 0, true);
    }

    private static void members() {
        TreeSet<String> names = new TreeSet<>();
        for (String one : FACE) {
            names.add(one.split(" ")[1]);
        }
        for (Method m : Cloudseed.class.getDeclaredMethods()) {
            if (!Modifier.isPublic(m.getModifiers())) {
                CHECK.due("rule 1: private is " + m, Modifier.isPrivate(m.getModifiers()), true);
                CHECK.due("rule 1: no public one is called " + m, names.contains(m.getName()), false);
                CHECK.due("rule 11: at most seven parameters has " + m, m.getParameterCount() <= 7, true);
            }
        }
        List<String> constants = List.of("NONE", "IDLE", "TARGET", "ALERT");
        for (Field f : Cloudseed.class.getDeclaredFields()) {
            CHECK.due("rule 1: public or private is " + f, Modifier.isPublic(f.getModifiers())
                    ? constants.contains(f.getName()) : Modifier.isPrivate(f.getModifiers()), true);
        }
    }

    private static void insides() {
        Class<?>[] inside = Cloudseed.class.getDeclaredClasses();
        CHECK.due("rule 11: at most twelve classes", inside.length < 12, true);
        fields(Cloudseed.class);
        for (Class<?> one : inside) {
            CHECK.due("rule 2: static is " + one, Modifier.isStatic(one.getModifiers()), true);
            CHECK.due("rule 1: not public is " + one, Modifier.isPublic(one.getModifiers()), false);
            fields(one);
            for (Method m : one.getDeclaredMethods()) {
                CHECK.due("rule 11: at most seven parameters has " + m, m.getParameterCount() <= 7, true);
            }
        }
    }

    private static void fields(Class<?> one) {
        int count = 0;
        for (Field f : one.getDeclaredFields()) {
            boolean constant = Modifier.isStatic(f.getModifiers());
            CHECK.due("rule 5: final is " + f, !constant || Modifier.isFinal(f.getModifiers()), true);
            count += constant ? 0 : 1;
        }
        CHECK.due("rule 11: at most twenty fields has " + one, count <= 20, true);
    }

    private static void text(String source) {
        for (String token : List.of("->", "::", "import ", "package ", "try ", "catch ", "finally", "synchronized",
                "assert ", "static {", "new Object", "toString", "hashCode", "NaN", "Exact(", "equals(")) {
            CHECK.due("no " + token, source.contains(token), false);
        }
        CHECK.due("signs 1 to 127", source.chars().allMatch(c -> c > 0 && c < 128), true);
        int start = 0;
        String[] lines = source.split("\n");
        for (int i = 0; i < lines.length; i++) {
            boolean opens = lines[i].matches(" {4}(?: {4})?[a-z].*[a-z\\])]+ .*\\(.*") && !lines[i].endsWith(";");
            start = opens ? i : start;
            boolean closes = lines[i].matches(" {4}(?: {4})?}");
            CHECK.due("rule 11: a short method from the line " + (start + 1), closes && i - start > 60, false);
            start = closes ? i : start;
        }
    }

    /** Rules 4 and 6: what is called of the library, and what is thrown. */
    private static void library(String source) {
        Set<String> may = Set.of("Math.abs", "Math.max", "Math.min", "Integer.compare", "System.arraycopy");
        Matcher used = Pattern.compile("\\b(?:Math|Integer|Long|System|Arrays|String|List)\\.\\w+").matcher(source);
        while (used.find()) {
            CHECK.due("rule 4: it may use " + used.group(), may.contains(used.group()), true);
        }
        Set<String> thrown = Set.of(INDEX, ARGUMENT, STATE);
        Matcher thrower = Pattern.compile("\\bthrow (new (\\w+)\\(\"[^\"]+\"\\);)?").matcher(source);
        while (thrower.find()) {
            boolean right = thrower.group(2) != null && thrown.contains(thrower.group(2));
            CHECK.due("rule 6: it may throw " + thrower.group(), right, true);
        }
    }

    /** Rule 11: calls go at most eight deep; it holds no recursion, which would have no end here. */
    private static void depth(String source) {
        Map<String, Set<String>> calls = new HashMap<>();
        Pattern start = Pattern.compile("^ {4}(?: {4})?(?:\\w+(?:\\[])? )*(\\w+)\\(");
        Pattern call = Pattern.compile("((?:(?:Math|Integer|System)\\.)?\\w+)\\(");
        Set<String> inside = new TreeSet<>();
        for (String line : source.split("\n")) {
            Matcher method = start.matcher(line);
            Matcher called = call.matcher(line);
            if (method.find() && !line.endsWith(";") && !line.contains(" = ") && !line.matches(" *(if|for|while) .*")) {
                inside = calls.computeIfAbsent(method.group(1), name -> new TreeSet<>());
                called.region(method.end(), line.length());
            }
            while (called.find() && !line.trim().startsWith("*") && !line.trim().startsWith("/")) {
                inside.add(called.group(1));
            }
        }
        CHECK.due("all methods are found", calls.keySet().containsAll(Set.of("run", "angle", "suits", "Course")), true);
        for (String name : calls.keySet()) {
            int deep = deep(name, calls, 1);
            CHECK.due("rule 11: " + deep + " calls deep goes " + name, deep <= 8, true);
        }
    }

    /** A name that is not the class's own is one of the library. */
    private static int deep(String name, Map<String, Set<String>> calls, int level) {
        int deepest = level;
        if (level < 20 && calls.containsKey(name)) {
            for (String called : calls.get(name)) {
                deepest = Math.max(deepest, deep(called, calls, level + 1));
            }
        }
        return deepest;
    }
}
