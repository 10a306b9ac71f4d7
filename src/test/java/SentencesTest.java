import java.io.IOException;
import java.lang.reflect.Method;
import java.nio.file.Files;
import java.nio.file.Path;
import java.util.List;
import java.util.TreeSet;
import java.util.regex.Matcher;
import java.util.regex.Pattern;

/** The methods that ../SENTENCES.md names for the sentences of the document are just those that there are. */
public final class SentencesTest {
    private static final Check CHECK = new Check("SentencesTest");
    private static final Pattern NAME = Pattern.compile("(promise|constant)[0-9A-Z]\\w*");
    private static final List<Class<?>> TESTS = List.of(SkyEdgesTest.class, AskEdgesTest.class,
            RunEdgesTest.class, DataEdgesTest.class, ReplayEdgesTest.class);

    public static void main(String[] args) throws IOException {
        TreeSet<String> named = new TreeSet<>();
        Matcher names = NAME.matcher(Files.readString(Path.of("src/test/SENTENCES.md")));
        while (names.find()) {
            named.add(names.group());
        }
        TreeSet<String> there = new TreeSet<>();
        for (Class<?> tests : TESTS) {
            for (Method method : tests.getDeclaredMethods()) {
                if (NAME.matcher(method.getName()).matches()) {
                    CHECK.due("there is one method " + method.getName(), there.add(method.getName()), true);
                }
            }
        }
        for (String name : there) {
            CHECK.due("a sentence for " + name, named.contains(name), true);
        }
        for (String name : named) {
            CHECK.due("a method " + name, there.contains(name), true);
        }
        CHECK.end();
    }
}
