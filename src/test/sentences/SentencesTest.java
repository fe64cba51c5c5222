import java.lang.reflect.InvocationTargetException;
import java.lang.reflect.Method;
import java.lang.reflect.Modifier;
import java.nio.file.Path;
import java.util.ArrayList;
import java.util.Comparator;
import java.util.List;

/**
 * Runs the tests of the document's sentences: the first argument is the document, the others are
 * the classes. Each word of the terms and promises must be in a sentence that a test is for, and
 * each sentence that a test names must stand in the document, below the head that its class names.
 */
public final class SentencesTest {
    private static int tests;

    private SentencesTest() {
    }

    public static void main(String[] arguments) throws Exception {
        Document document = new Document(Path.of(arguments[0]));
        for (int i = 1; i < arguments.length; i++) {
            runAll(Class.forName(arguments[i]), document);
        }
        Check.begin("SentencesTest");
        document.checkThatAllIsQuoted();
        System.out.println(tests + " tests of sentences");
        Check.finish();
    }

    private static void runAll(Class<?> group, Document document) throws IllegalAccessException {
        Check.begin(group.getName());
        Head head = group.getAnnotation(Head.class);
        Check.record(head != null, "the class tells no head of the document");
        for (Method test : testsOf(group)) {
            Check.begin(group.getName() + "." + test.getName());
            document.quote(head == null ? "" : head.value(), test.getAnnotation(Sentence.class).value());
            run(test);
        }
    }

    private static List<Method> testsOf(Class<?> group) {
        List<Method> found = new ArrayList<>();
        for (Method method : group.getDeclaredMethods()) {
            if (method.isAnnotationPresent(Sentence.class)) {
                found.add(method);
            } else {
                boolean isHelper = Modifier.isPrivate(method.getModifiers()) || method.isSynthetic();
                Check.record(isHelper, method.getName() + " is for no sentence");
            }
        }
        Check.record(!found.isEmpty(), "the class has no test");
        found.sort(Comparator.comparing(Method::getName));
        return found;
    }

    private static void run(Method test) throws IllegalAccessException {
        tests++;
        int before = Check.answers();
        try {
            test.invoke(null);
        } catch (InvocationTargetException e) {
            Check.record(false, "ended by " + e.getCause());
        }
        Check.record(Check.answers() > before, "asked for nothing");
    }
}
