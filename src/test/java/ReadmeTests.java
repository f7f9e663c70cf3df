import java.io.IOException;
import java.lang.reflect.Method;
import java.lang.reflect.Modifier;
import java.nio.file.Files;
import java.nio.file.Path;
import java.util.Arrays;
import java.util.regex.Matcher;
import java.util.regex.Pattern;

/** What README.md shows: each call has the answer that stands behind it, and no call is left out. */
public final class ReadmeTests {
    private static final Pattern MADE = Pattern.compile("MeasureBook book = new MeasureBook\\((\\d+)\\);");
    private static final Pattern PUT = Pattern.compile("put\\(book, \"(.*)\"\\);");
    private static final Pattern CALL = Pattern.compile("book\\.(\\w+)\\(([-\\d, ]*)\\); *// (-?\\d+)");

    private Run book;
    private int calls;

    public static void main(String[] args) throws IOException, ReflectiveOperationException {
        String readme = Files.readString(Path.of("README.md"));
        new ReadmeTests().example(readme);
        everyCall(readme);
        Check.end();
    }

    private void example(String readme) throws ReflectiveOperationException {
        for (String line : readme.split("\n")) {
            Matcher made = MADE.matcher(line);
            Matcher put = PUT.matcher(line);
            Matcher call = CALL.matcher(line);
            if (made.matches()) {
                book = new Run(Integer.parseInt(made.group(1)));
            } else if (book != null && put.matches()) {
                book.put(put.group(1).replace("\\n", "\n"));
            } else if (book != null && call.matches()) {
                Check.due(line, answer(call.group(1), call.group(2)), Integer.parseInt(call.group(3)));
                calls++;
            } else {
                Check.holds(line + ": a call is shown with its answer", !line.startsWith("book."));
            }
        }
        Check.holds("README.md shows calls with their answers", calls > 0);
    }

    private int answer(String name, String numbers) throws ReflectiveOperationException {
        Object[] given = Arrays.stream(numbers.split(", *")).filter(n -> !n.isEmpty()).map(Integer::valueOf).toArray();
        Class<?>[] types = new Class<?>[given.length];
        Arrays.fill(types, int.class);
        return (int) Run.class.getDeclaredMethod(name, types).invoke(book, given);
    }

    private static void everyCall(String readme) {
        for (Method method : MeasureBook.class.getDeclaredMethods()) {
            if (Modifier.isPublic(method.getModifiers())) {
                Pattern told = Pattern.compile("(?m)^\\| .*`" + method.getName() + "\\(");
                Check.holds("README.md tells of " + method.getName(), told.matcher(readme).find());
            }
        }
    }
}
