import java.io.IOException;
import java.lang.reflect.Method;
import java.nio.file.Files;
import java.nio.file.Path;
import java.util.Arrays;
import java.util.HashMap;
import java.util.HashSet;
import java.util.Map;
import java.util.Set;
import java.util.regex.Matcher;
import java.util.regex.Pattern;

/** Holds the tests against the document: the words of each stand there, and no word is without a test. */
public final class SentencesTests {
    private static final Path DOCUMENT = Path.of("../shared/DOC.md");

    private final Map<String, String> parts = new HashMap<>();
    private final Map<String, boolean[]> covered = new HashMap<>();

    public static void main(String[] args) throws IOException {
        SentencesTests sentences = new SentencesTests();
        sentences.readDocument();
        sentences.takeTests();
        for (int promise = 1; promise <= 19; promise++) {
            sentences.whole("Promise " + promise);
        }
        sentences.whole("Terms");
        Check.end();
    }

    /** Each part's text without its signs of markup, each stretch of blanks being one. */
    private void readDocument() throws IOException {
        String document = Files.readString(DOCUMENT);
        for (String part : document.split("(?m)^## ")) {
            int line = part.indexOf('\n');
            if (line > 0) {
                String heading = part.substring(0, line).replaceFirst(":.*", "").trim();
                String text = part.substring(line).replaceFirst("^\\s*`[^`]*`:", "")
                    .replaceAll("(?m)^```.*$", "").replaceAll("=+ \\d ", "").replaceAll("\\s+", " ");
                parts.put(heading, text);
                covered.put(heading, new boolean[text.length()]);
            }
        }
    }

    private void takeTests() {
        Set<String> names = new HashSet<>();
        for (Class<?> tests : Sentences.CLASSES) {
            for (Method method : tests.getDeclaredMethods()) {
                boolean named = method.getName().matches("p\\d\\d_.*");
                Check.holds(method + " tells its sentence", !named || method.isAnnotationPresent(Says.class));
            }
            for (Method test : Sentences.of(tests)) {
                Says says = test.getAnnotation(Says.class);
                Check.holds(test + " is named by its promise", test.getName().matches("(p(0[1-9]|1[0-9])_)+.*"));
                Check.holds(test.getName() + " is the name of one test", names.add(test.getName()));
                Matcher promise = Pattern.compile("Promise (\\d+)").matcher(says.in());
                if (promise.matches()) {
                    String number = String.format("p%02d_", Integer.parseInt(promise.group(1)));
                    Check.holds(test + " is of " + says.in(), test.getName().contains(number));
                }
                cover(says.in(), says.words(), test.getName());
            }
        }
    }

    private void cover(String part, String words, String test) {
        String text = parts.getOrDefault(part, "");
        int at = text.indexOf(words);
        if (at < 0 || words.isEmpty()) {
            Check.wrong(test + ": the document does not say under " + part + ": " + words);
            return;
        }
        for (; at >= 0; at = text.indexOf(words, at + 1)) {
            Arrays.fill(covered.get(part), at, at + words.length(), true);
        }
    }

    private void whole(String part) {
        String text = parts.getOrDefault(part, "");
        boolean[] marks = covered.getOrDefault(part, new boolean[0]);
        Check.holds("the document has " + part, !text.isEmpty());
        StringBuilder left = new StringBuilder();
        for (int i = 0; i < text.length(); i++) {
            left.append(marks[i] ? ' ' : text.charAt(i));
        }
        String bare = left.toString().replaceAll("\\s+", " ").trim();
        Check.holds("under " + part + " every word has a test, but \"" + bare + "\"", bare.isEmpty());
    }
}
