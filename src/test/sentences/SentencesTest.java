import java.lang.reflect.InvocationTargetException;
import java.lang.reflect.Method;
import java.lang.reflect.Modifier;
import java.nio.file.Path;
import java.util.ArrayList;
import java.util.Comparator;
import java.util.List;

/**
 * Runs the tests of the document's sentences: the first argument is the document, the others are
 * the classes, or tests told as Promise02Put.returns0. Each sentence that a test names must stand in
 * the document, below the head that its class names; with --all ahead of the classes each word of
 * the terms and promises must be in a sentence that a test is for.
 */
public final class SentencesTest {
    private static final String ALL = "--all";

    private static int tests;

    private SentencesTest() {
    }

    public static void main(String[] arguments) throws Exception {
        Document document = new Document(Path.of(arguments[0]));
        boolean isAll = arguments.length > 1 && arguments[1].equals(ALL);
        for (int i = isAll ? 2 : 1; i < arguments.length; i++) {
            String[] names = arguments[i].split("\\.", 2);
            runAsked(Class.forName(names[0]), names.length > 1 ? names[1] : "", document);
        }
        Check.begin("SentencesTest");
        if (isAll) {
            document.checkThatAllIsQuoted();
        }
        System.out.println(tests + " tests of sentences");
        Check.finish();
    }

    /** Runs the test of this name, or all tests of the class if the name is empty. */
    private static void runAsked(Class<?> group, String name, Document document)
            throws IllegalAccessException {
        Check.begin(group.getName());
        Head head = group.getAnnotation(Head.class);
        Check.record(head != null, "the class tells no head of the document");
        int before = tests;
        for (Method test : testsOf(group)) {
            if (name.isEmpty() || name.equals(test.getName())) {
                Check.begin(group.getName() + "." + test.getName());
                document.quote(head == null ? "" : head.value(), test.getAnnotation(Sentence.class).value());
                run(test);
            }
        }
        Check.record(tests > before, "the class has no test " + name);
    }

    private static List<Method> testsOf(Class<?> group) {
        List<Method> found = new ArrayList<>();
        for (Method method : group.getDeclaredMethods()) {
            if (method.isAnnotationPresent(Sentence.class)) {
                found.add(method);
            } else {
                boolean isHelper = Modifier.isPrivate(method.getModifiers()) || method.isSynthetic();
                Check.record(isHelper, method.getName() + " is for no sentence");
            }
        }
        found.sort(Comparator.comparing(Method::getName));
        return found;
    }

    private static void run(Method test) throws IllegalAccessException {
        tests++;
        int before = Check.answers();
        try {
            test.invoke(null);
        } catch (InvocationTargetException e) {
            Check.record(false, "ended by " + e.getCause());
        }
        Check.record(Check.answers() > before, "asked for nothing");
    }
}
