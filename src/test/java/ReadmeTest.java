import java.io.IOException;
import java.lang.reflect.InvocationTargetException;
import java.lang.reflect.Method;
import java.nio.file.Files;
import java.nio.file.Path;
import java.util.regex.Matcher;
import java.util.regex.Pattern;

/** Makes the calls of README.md's example, and compares the answers with those that stand beside them. */
public final class ReadmeTest {
    private static final Check CHECK = new Check("ReadmeTest");
    private static final Pattern CALL = Pattern.compile(" {4}x\\.(\\w+)\\(([-\\d, ]*)\\); +// (.*)");
    private static final Pattern ANSWER = Pattern.compile("(answers|throws) ([-\\w]+)\\b.*");

    public static void main(String[] args) throws IOException, IllegalAccessException {
        Cloudseed x = new Cloudseed();
        int answers = 0;
        for (String line : Files.readAllLines(Path.of("README.md"))) {
            Matcher call = CALL.matcher(line);
            if (!call.matches()) {
                CHECK.due("a call that can't be read: " + line, line.startsWith("    x."), false);
                continue;
            }
            String got = answer(x, call.group(1), call.group(2));
            Matcher answer = ANSWER.matcher(call.group(3));
            if (answer.matches()) {
                CHECK.due(line.trim() + " answers " + got, got.equals(answer.group(2)), true);
                answers++;
            } else {
                CHECK.due(line.trim() + " answers " + got, got.equals("null"), true);
            }
        }
        CHECK.due("there is an example", answers > 0, true);
        CHECK.end();
    }

    /** The answer as a text, and "null" of void; or the name of what is thrown. */
    private static String answer(Cloudseed x, String name, String told) throws IllegalAccessException {
        String[] texts = told.isEmpty() ? new String[0] : told.split(", ");
        Object[] arguments = new Object[texts.length];
        for (int i = 0; i < texts.length; i++) {
            arguments[i] = Integer.valueOf(texts[i]);
        }
        for (Method method : Cloudseed.class.getMethods()) {
            if (method.getName().equals(name) && method.getParameterCount() == texts.length) {
                try {
                    return String.valueOf(method.invoke(x, arguments));
                } catch (InvocationTargetException e) {
                    return e.getCause().getClass().getSimpleName();
                }
            }
        }
        return "no such call";
    }
}
