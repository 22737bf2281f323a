import java.io.IOException;
import java.lang.reflect.Method;
import java.nio.file.Files;
import java.nio.file.Path;
import java.util.Map;
import java.util.TreeMap;

/** Each sentence of the document's Terms and promises is held by a test of its own, in the document's words. */
public final class EdgesAllTest {
    private static final Class<?>[] ALL = {EdgesTermsTest.class, EdgesRowsTest.class, EdgesTextTest.class, EdgesToldTest.class,
        EdgesTwistsTest.class, EdgesSeenTest.class, EdgesEventsTest.class, EdgesTapesTest.class};

    public static void main(String[] args) throws IOException {
        String document = Files.readString(Path.of("../shared/DOC.md"));
        Map<Integer, String> left = new TreeMap<>();
        left.put(0, terms(document));
        for (int promise = 1; promise <= 40; promise++) {
            left.put(promise, promise(document, promise));
        }
        Map<Integer, String> whole = new TreeMap<>(left);
        for (Class<?> edges : ALL) {
            for (Method test : Edges.tests(edges)) {
                Holds holds = test.getAnnotation(Holds.class);
                String sentence = holds.says();
                String text = whole.get(holds.promise());
                Check.due(test.getName() + " holds a sentence of promise " + holds.promise(), text.contains(sentence) ? 1 : 0, 1);
                left.computeIfPresent(holds.promise(), (promise, rest) -> without(whole.get(promise), rest, sentence));
            }
        }
        left.forEach((promise, rest) -> Check.text("what no test holds of promise " + promise, words(rest), ""));
        Check.end();
    }

    private static String terms(String document) {
        int from = document.indexOf("==== 1 ") + 7;
        int to = document.indexOf("The constants:");
        return plain(document.substring(from, to).replace("```text", " ").replace("```", " ").replaceAll("==== \\d", " "));
    }

    private static String promise(String document, int promise) {
        int from = document.indexOf("## Promise " + promise + ":");
        int to = document.indexOf("\n## ", from);
        String text = document.substring(from, to);
        return plain(text.substring(text.indexOf("`: ") + 3));
    }

    private static String plain(String text) {
        return text.replaceAll("\\s+", " ").trim();
    }

    /** What is held already stands as blanks, so that places stay as they are. */
    private static String without(String whole, String rest, String sentence) {
        StringBuilder then = new StringBuilder(rest);
        for (int at = whole.indexOf(sentence); at >= 0; at = whole.indexOf(sentence, at + 1)) {
            for (int i = 0; i < sentence.length(); i++) {
                then.setCharAt(at + i, ' ');
            }
        }
        return then.toString();
    }

    private static String words(String rest) {
        return plain(rest.replaceAll("(^|[^A-Za-z0-9])[.;:,()]+(?=[^A-Za-z0-9]|$)", "$1 ").replaceAll("[.;:,()]+ ", " "));
    }
}
