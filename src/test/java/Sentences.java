import java.lang.reflect.InvocationTargetException;
import java.lang.reflect.Method;
import java.util.ArrayList;
import java.util.Comparator;
import java.util.List;

/** Runs the tests that are each of one sentence; a wrong answer is told with its test and sentence. */
final class Sentences {
    /** Every class with such tests, so that SentencesTests can see whether a sentence has none. */
    static final List<Class<?>> CLASSES = List.of(TapeTests.class, TokenTests.class, GrammarTests.class,
        FileTests.class, DefineTests.class, ForgetTests.class, ReckonTests.class, NameTests.class,
        TurnTests.class, ResultTests.class, BookTests.class);

    private Sentences() {
    }

    static List<Method> of(Class<?> tests) {
        List<Method> found = new ArrayList<>();
        for (Method method : tests.getDeclaredMethods()) {
            if (method.isAnnotationPresent(Says.class)) {
                found.add(method);
            }
        }
        found.sort(Comparator.comparing(Method::getName));
        return found;
    }

    static void run(Class<?> tests) {
        for (Method test : of(tests)) {
            Says says = test.getAnnotation(Says.class);
            Check.under(test.getName() + " [" + says.in() + ": " + says.words() + "] ");
            try {
                test.invoke(null);
            } catch (InvocationTargetException thrown) {
                Check.wrong("it throws " + thrown.getCause());
            } catch (IllegalAccessException closed) {
                Check.wrong("it can't be run: " + closed);
            }
        }
        Check.under("");
        Check.end();
    }
}
