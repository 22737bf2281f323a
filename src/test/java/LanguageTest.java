import java.io.IOException;
import java.lang.reflect.Field;
import java.lang.reflect.Method;
import java.lang.reflect.Modifier;
import java.nio.file.Files;
import java.nio.file.Path;
import java.util.ArrayList;
import java.util.Arrays;
import java.util.List;
import java.util.regex.Matcher;
import java.util.regex.Pattern;

/** LANGUAGE.md's rules, so far as they can be read off the source and the compiled classes. */
public final class LanguageTest {
    private static final String[] FORBIDDEN = {"throw", "throws", "try", "catch", "finally", "synchronized", "assert",
        "import", "package", "Exact\\s*\\(", "->", "::", "static\\s*\\{", "\"\\s*\\+",
        "\\+\\s*\"", "volatile", "transient", "native", "@\\w+", "float", "double", "random", "currentTime", "nanoTime",
        "Thread", "hashCode", "toString", "\\bequals\\b", "while\\s*\\(true\\)", "for\\s*\\(;;"};

    public static void main(String[] args) throws IOException {
        String source = Files.readString(Path.of("src/main/java/TradedDesigns.java"));
        String code = source.replaceAll("(?s)/\\*.*?\\*/", " ").replaceAll("//[^\\n]*", " ");
        for (String word : FORBIDDEN) {
            String pattern = Character.isLetter(word.charAt(0)) ? "\\b" + word : word;
            Matcher matcher = Pattern.compile(pattern).matcher(code);
            Check.text("forbidden " + word, matcher.find() ? matcher.group() : "", "");
        }
        Check.due("signs 1 to 127", source.chars().filter(sign -> sign > 126).count(), 0);
        Check.text("System", code.replaceAll("System\\.arraycopy", " ").contains("System") ? "System" : "", "");
        lengths(source);
        List<Class<?>> all = new ArrayList<>(Arrays.asList(TradedDesigns.class.getDeclaredClasses()));
        all.add(TradedDesigns.class);
        for (Class<?> part : all) {
            members(part);
        }
        Check.end();
    }

    private static void lengths(String source) {
        Matcher method = Pattern.compile("\\n( +)[\\w\\[\\] ]+\\([^;{]*\\) \\{\\n(.*?)\\n\\1\\}", Pattern.DOTALL).matcher(source);
        int found = 0;
        while (method.find()) {
            found++;
            long lines = method.group(2).chars().filter(sign -> sign == '\n').count() + 1;
            Check.due("lines of " + method.group().trim().split("\\{")[0], lines > 60 ? lines : 0, 0);
        }
        Check.due("methods were found", found > 40 ? 1 : 0, 1);
    }

    private static void members(Class<?> part) {
        int fields = 0;
        for (Field field : part.getDeclaredFields()) {
            boolean isStatic = Modifier.isStatic(field.getModifiers());
            fields += isStatic ? 0 : 1;
            if (isStatic) {
                boolean constant = Modifier.isFinal(field.getModifiers()) && field.getType().isPrimitive();
                Check.due(part.getName() + "." + field.getName() + " is a constant", constant ? 1 : 0, 1);
            }
        }
        Check.due(part.getName() + " has some twenty fields at most", fields <= 20 ? 1 : 0, 1);
        for (Method method : part.getDeclaredMethods()) {
            Check.due(part.getName() + "." + method.getName() + " parameters", Math.max(7, method.getParameterCount()), 7);
        }
    }
}
