import java.io.IOException;
import java.lang.reflect.Method;
import java.lang.reflect.Modifier;
import java.nio.file.Files;
import java.nio.file.Path;
import java.util.ArrayList;
import java.util.List;
import java.util.regex.Matcher;
import java.util.regex.Pattern;
import java.util.stream.Stream;

/** What README.md shows of the class's use is true of the class, and it names every call and test. */
public final class ReadmeTest {
    private static final String NEW_OBJECT = "CommitSites x = new CommitSites();";
    private static final Pattern CALL = Pattern.compile("x\\.(\\w+)\\(([^)]*)\\); +// (-?\\d+)(:.*)?");

    public static void main(String[] args) throws IOException {
        Runs t = new Runs("ReadmeTest");
        String text = Files.readString(Path.of("README.md"));
        answersOfTheExample(t, text);
        everyCallIsNamed(t, text);
        everyTestIsNamed(t, text);
        t.end();
    }

    private static void answersOfTheExample(Runs t, String text) {
        String example = text.split("```java\n")[1].split("```")[0];
        CommitSites x = null;
        for (String line : example.split("\n")) {
            Matcher call = CALL.matcher(line);
            if (line.equals(NEW_OBJECT)) {
                x = new CommitSites();
            } else if (call.matches()) {
                int got = Runs.answer(x, call.group(1), numbers(call.group(2)));
                t.due("README: " + line, got, Integer.parseInt(call.group(3)));
            } else if (!line.isBlank()) {
                t.due("README shows no answer: " + line, 0, 1);
            }
        }
    }

    private static void everyCallIsNamed(Runs t, String text) {
        for (Method method : CommitSites.class.getDeclaredMethods()) {
            if (Modifier.isPublic(method.getModifiers())) {
                String shown = "\n| `" + method.getName() + "(";
                t.due("README names " + method.getName(), text.contains(shown) ? 1 : 0, 1);
            }
        }
    }

    private static void everyTestIsNamed(Runs t, String text) throws IOException {
        try (Stream<Path> files = Files.list(Path.of("src/test/java"))) {
            for (Path file : files.sorted().toList()) {
                String name = file.getFileName().toString().replace(".java", "");
                t.due("README names " + name, text.contains("`" + name + "`") ? 1 : 0, 1);
            }
        }
    }

    private static List<Integer> numbers(String text) {
        List<Integer> numbers = new ArrayList<>();
        for (String word : text.split(", *")) {
            if (word.startsWith("0b")) {
                numbers.add(Integer.parseInt(word.substring(2), 2));
            } else if (!word.isEmpty()) {
                numbers.add(Integer.parseInt(word));
            }
        }
        return numbers;
    }
}
