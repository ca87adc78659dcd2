import java.io.IOException;
import java.lang.reflect.Method;
import java.lang.reflect.Modifier;
import java.nio.file.Files;
import java.nio.file.Path;
import java.util.List;
import java.util.regex.Matcher;
import java.util.regex.Pattern;
import java.util.stream.Stream;

/** README.md, read from the folder in which the test is run: what it says of the class and of the tests holds. */
public final class ReadmeTest {
    private static final Check CHECK = new Check("ReadmeTest");
    private static final Pattern CALL = Pattern.compile("ring\\.(\\w+)\\((.*)\\); +// (true|false|-?\\d+)(:.*)?");

    public static void main(String[] args) throws IOException, ReflectiveOperationException {
        String page = Files.readString(Path.of("README.md"));
        exampleAnswersWhatItSays(page);
        everyCallIsNamed(page);
        everyTestIsNamed(page);
        CHECK.end();
    }

    private static void exampleAnswersWhatItSays(String page) throws ReflectiveOperationException {
        EarlyToken ring = new EarlyToken();
        int played = 0;
        for (String line : example(page)) {
            if (line.startsWith("ring.")) {
                Matcher call = CALL.matcher(line);
                CHECK.yes("a call and its answer: " + line, call.matches());
                if (call.matches()) {
                    CHECK.due(line, play(ring, call.group(1), call.group(2)), number(call.group(3)));
                    played++;
                }
            }
        }
        CHECK.yes("the example has " + played + " calls, 512 at most", played >= 30 && played <= 512);
    }

    private static List<String> example(String page) {
        int from = page.indexOf("```java");
        int to = page.indexOf("```", from + 3);
        CHECK.yes("there is an example", from >= 0 && to > from);
        return from >= 0 && to > from ? page.substring(from, to).lines().toList() : List.of();
    }

    /** A boolean counts 1 or 0. */
    private static long play(EarlyToken ring, String name, String told) throws ReflectiveOperationException {
        String[] texts = told.isEmpty() ? new String[0] : told.split(", ");
        for (Method method : EarlyToken.class.getDeclaredMethods()) {
            if (method.getName().equals(name) && method.getParameterCount() == texts.length) {
                Object[] values = new Object[texts.length];
                for (int i = 0; i < texts.length; i++) {
                    values[i] = value(method.getParameterTypes()[i], texts[i]);
                }
                return number(String.valueOf(method.invoke(ring, values)));
            }
        }
        throw new NoSuchMethodException(name);
    }

    private static Object value(Class<?> type, String text) {
        if (type == boolean.class) {
            return Boolean.valueOf(text);
        }
        if (type == long.class) {
            return Long.valueOf(text);
        }
        return Integer.valueOf(text);
    }

    private static long number(String text) {
        if (text.equals("true")) {
            return 1;
        }
        return text.equals("false") ? 0 : Long.parseLong(text);
    }

    private static void everyCallIsNamed(String page) {
        for (Method method : EarlyToken.class.getDeclaredMethods()) {
            if (Modifier.isPublic(method.getModifiers())) {
                CHECK.yes(method.getName() + " is named", page.contains("`" + method.getName() + "`"));
            }
        }
    }

    private static void everyTestIsNamed(String page) throws IOException {
        try (Stream<Path> files = Files.list(Path.of("src/test/java"))) {
            for (Path file : files.toList()) {
                String name = file.getFileName().toString().replace(".java", "");
                if (name.endsWith("Test")) {
                    CHECK.yes(name + " is named", page.contains("| `" + name + "` |"));
                }
            }
        }
    }
}
