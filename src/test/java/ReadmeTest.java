import java.io.IOException;
import java.lang.reflect.Method;
import java.lang.reflect.Modifier;
import java.nio.file.Files;
import java.nio.file.Path;
import java.util.List;
import java.util.regex.Matcher;
import java.util.regex.Pattern;

/** README.md names every call of the face, its tests are there, and its examples answer as it says. */
public final class ReadmeTest {
    private static final Pattern MADE = Pattern.compile("TradedDesigns x = new TradedDesigns\\(\\);");
    private static final Pattern CALL = Pattern.compile("x\\.(\\w+)\\(([-\\d, ]*)\\); +// (-?\\d+)(?:: .*)?");
    private static final Pattern FED =
            Pattern.compile("for \\(char sign : \"([^\"]*)\"\\.toCharArray\\(\\)\\) \\{ x\\.feed\\(sign\\); \\}");

    public static void main(String[] args) throws IOException {
        List<String> lines = Files.readAllLines(Path.of("README.md"));
        examples(lines);
        calls(String.join("\n", lines));
        tests(String.join("\n", lines));
        Check.end();
    }

    private static void examples(List<String> lines) {
        TradedDesigns x = null;
        int asked = 0;
        boolean inside = false;
        for (String line : lines) {
            if (line.startsWith("```")) {
                inside = line.equals("```java");
            } else if (inside && MADE.matcher(line).matches()) {
                x = new TradedDesigns();
            } else if (inside && FED.matcher(line).matches()) {
                Check.feed(x, group(FED, line, 1));
            } else if (inside) {
                boolean told = CALL.matcher(line).matches();
                Check.due("'" + line + "' is a call with its answer", told ? 1 : 0, 1);
                if (told) {
                    Check.due(line, answer(x, group(CALL, line, 1), group(CALL, line, 2)), Long.parseLong(group(CALL, line, 3)));
                    asked++;
                }
            }
        }
        Check.due("examples were found", asked > 40 ? 1 : 0, 1);
    }

    private static String group(Pattern pattern, String line, int group) {
        Matcher matcher = pattern.matcher(line);
        return matcher.matches() ? matcher.group(group) : "";
    }

    private static long answer(TradedDesigns x, String name, String numbers) {
        String[] parts = numbers.isBlank() ? new String[0] : numbers.split(", *");
        for (Method method : TradedDesigns.class.getDeclaredMethods()) {
            boolean open = Modifier.isPublic(method.getModifiers());
            if (open && method.getName().equals(name) && method.getParameterCount() == parts.length) {
                Object[] values = new Object[parts.length];
                for (int i = 0; i < parts.length; i++) {
                    boolean isLong = method.getParameterTypes()[i] == long.class;
                    values[i] = isLong ? (Object) Long.valueOf(parts[i]) : (Object) Integer.valueOf(parts[i]);
                }
                try {
                    return ((Number) method.invoke(x, values)).longValue();
                } catch (ReflectiveOperationException thrown) {
                    throw new IllegalStateException("x." + name + "(" + numbers + ")", thrown);
                }
            }
        }
        throw new IllegalStateException("there is no x." + name + "(" + numbers + ")");
    }

    /** Each call stands at the head of a table's row, with as many numbers as it takes. */
    private static void calls(String text) {
        for (Method method : TradedDesigns.class.getDeclaredMethods()) {
            if (Modifier.isPublic(method.getModifiers())) {
                int numbers = method.getParameterCount();
                String row = "\\n\\| `" + method.getName() + "\\(" + (numbers == 0 ? "" : "\\w+(, \\w+){" + (numbers - 1) + "}") + "\\)` \\|";
                Check.due("README.md has a row for " + method.getName(), Pattern.compile(row).matcher(text).find() ? 1 : 0, 1);
            }
        }
    }

    private static void tests(String text) throws IOException {
        try (var files = Files.list(Path.of("src/test/java"))) {
            for (Path file : (Iterable<Path>) files::iterator) {
                String name = file.getFileName().toString().replace(".java", "");
                if (name.endsWith("Test")) {
                    Check.due("README.md names " + name, text.contains("`" + name + "`") ? 1 : 0, 1);
                }
            }
        }
    }
}
