import java.lang.reflect.Constructor;
import java.lang.reflect.Field;
import java.lang.reflect.Method;
import java.lang.reflect.Modifier;
import java.util.ArrayList;
import java.util.Arrays;
import java.util.List;
import java.util.TreeSet;

/** The face of the document, and rule 1 of the language: no other member than the document's. */
public final class FaceTest {
    private static final String[] FACE = {
        "int put(int,int,int) IndexOutOfBounds IllegalArgument",
        "int take(int) IllegalArgument IllegalState",
        "int fill(int,int) IndexOutOfBounds IllegalArgument IllegalState",
        "int buy(int) IndexOutOfBounds IllegalState",
        "int seed(int) IllegalArgument",
        "int set(int,int) IndexOutOfBounds IllegalArgument",
        "int draw(int) IllegalArgument IllegalState",
        "int claim(int,int) IndexOutOfBounds IllegalState",
        "int end()",
        "int append(int) IllegalArgument IllegalState",
        "int clearBuffer()",
        "int firstError()",
        "int run() IllegalArgument",
        "int keep(int) IllegalArgument",
        "int goBack(int) IllegalArgument IllegalState",
        "int undo() IllegalState",
        "int at(int,int,int) IndexOutOfBounds",
        "int cardOf(int,int) IndexOutOfBounds IllegalArgument",
        "int numberOf(int,int) IllegalArgument",
        "int call(int,int) IllegalArgument",
        "int gameOf(int,int) IndexOutOfBounds IllegalArgument",
        "int count(int) IllegalArgument",
        "int setting(int) IndexOutOfBounds",
        "int whyNot(int,int,int) IndexOutOfBounds IllegalArgument",
        "int ifClaimed(int,int) IndexOutOfBounds",
        "int missing(int,int,int) IndexOutOfBounds IllegalArgument",
        "int fullAt(int,int) IndexOutOfBounds IllegalArgument",
        "int firstFull()",
        "int next(int) IllegalArgument",
        "double drawnShare()",
        "long digest()",
    };

    public static void main(String[] args) {
        Check.due("NONE", TombolaBooks.NONE, -1);
        Class<?> face = TombolaBooks.class;
        Check.due("modifiers", face.getModifiers(), Modifier.PUBLIC | Modifier.FINAL);
        Constructor<?>[] made = face.getDeclaredConstructors();
        Check.due("constructors", made.length, 1);
        Check.due("a public one", made[0].getModifiers(), Modifier.PUBLIC);
        Check.due("without arguments", made[0].getParameterCount(), 0);
        methods(face);
        fields(face);
        for (Class<?> inside : face.getDeclaredClasses()) {
            int wanted = Modifier.STATIC;
            Check.due(inside + " is static", inside.getModifiers() & wanted, wanted);
            Check.due(inside + " is not public", inside.getModifiers() & Modifier.PUBLIC, 0);
            noPublicName(inside);
        }
        Check.finish();
    }

    private static void methods(Class<?> face) {
        List<String> found = new ArrayList<>();
        for (Method method : face.getDeclaredMethods()) {
            if (Modifier.isPrivate(method.getModifiers())) {
                continue;
            }
            Check.due(method + " is public", method.getModifiers(), Modifier.PUBLIC);
            found.add(told(method));
        }
        for (String due : FACE) {
            Check.record(found.contains(due), "the face lacks " + due);
        }
        Check.due("methods", found.size(), FACE.length);
        noPublicName(face);
    }

    private static String told(Method method) {
        StringBuilder text = new StringBuilder();
        text.append(method.getReturnType().getName()).append(' ').append(method.getName()).append('(');
        for (Class<?> type : method.getParameterTypes()) {
            text.append(text.charAt(text.length() - 1) == '(' ? "" : ",").append(type.getName());
        }
        text.append(')');
        for (Class<?> type : method.getExceptionTypes()) {
            text.append(' ').append(type.getSimpleName().replace("Exception", ""));
        }
        return text.toString();
    }

    private static void noPublicName(Class<?> owner) {
        TreeSet<String> names = new TreeSet<>();
        for (String method : FACE) {
            names.add(method.substring(method.indexOf(' ') + 1, method.indexOf('(')));
        }
        for (Method method : owner.getDeclaredMethods()) {
            boolean isOfFace = Modifier.isPublic(method.getModifiers());
            Check.record(isOfFace || !names.contains(method.getName()), method + " bears a public name");
        }
    }

    private static void fields(Class<?> face) {
        List<String> open = new ArrayList<>();
        for (Field field : face.getDeclaredFields()) {
            int modifiers = field.getModifiers();
            if (!Modifier.isPrivate(modifiers)) {
                open.add(field.getName());
            }
            Check.record(!Modifier.isStatic(modifiers) || Modifier.isFinal(modifiers),
                    field + " is static and not final");
        }
        Check.record(open.equals(Arrays.asList("NONE")), "open fields: " + open);
    }
}
