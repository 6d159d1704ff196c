import java.io.IOException;
import java.lang.reflect.Field;
import java.lang.reflect.Method;
import java.lang.reflect.Modifier;
import java.nio.file.Files;
import java.nio.file.Path;
import java.util.Arrays;
import java.util.HashSet;
import java.util.Set;
import java.util.regex.Matcher;
import java.util.regex.Pattern;

/** README.md is there, names the whole face and how to run the tests, and its example answers what it says. */
public final class ReadmeTest {
    private static final Path README = Path.of("README.md");
    private static final Pattern EXAMPLE_CALL = Pattern.compile("(?m)^shelf\\.(\\w+)\\(([-\\d, ]*)\\); *// (-?\\d+)");

    private static final Check check = new Check();

    public static void main(String[] args) throws IOException, ReflectiveOperationException {
        if (!Files.isRegularFile(README)) {
            System.out.println("README.md is not there");
            System.exit(1);
        }
        String text = Files.readString(README);
        namesTheFace(text);
        names(text, "\\.ci/run", "how to run the tests");
        exampleAnswersAsItSays(text);
        check.end();
    }

    private static void namesTheFace(String text) {
        names(text, "new JournalShelf\\(\\)", "the constructor");
        for (Method method : JournalShelf.class.getDeclaredMethods()) {
            if (Modifier.isPublic(method.getModifiers())) {
                names(text, "`" + method.getName() + "\\(", method.getName());
            }
        }
        for (Field field : JournalShelf.class.getFields()) {
            names(text, "`" + field.getName() + "`", field.getName());
        }
    }

    private static void names(String text, String pattern, String what) {
        boolean found = Pattern.compile(pattern, Pattern.MULTILINE).matcher(text).find();
        check.due("README.md names " + what + " (1) or not (0):", found ? 1 : 0, 1);
    }

    private static void exampleAnswersAsItSays(String text) throws ReflectiveOperationException {
        JournalShelf shelf = new JournalShelf();
        Set<String> called = new HashSet<>();
        Matcher call = EXAMPLE_CALL.matcher(text);
        while (call.find()) {
            called.add(call.group(1));
            check.due("README.md: " + call.group(), answer(shelf, call.group(1), call.group(2)),
                Integer.parseInt(call.group(3)));
        }
        // Otherwise an example whose form has changed would pass without a call.
        check.due("README.md: methods that the example calls", called.size(), 8);
    }

    private static int answer(JournalShelf shelf, String name, String arguments) throws ReflectiveOperationException {
        Object[] numbers = Arrays.stream(arguments.split(",")).map(String::trim).filter(number -> !number.isEmpty())
            .map(Integer::valueOf).toArray();
        Class<?>[] types = new Class<?>[numbers.length];
        Arrays.fill(types, int.class);
        return (int) JournalShelf.class.getMethod(name, types).invoke(shelf, numbers);
    }
}
