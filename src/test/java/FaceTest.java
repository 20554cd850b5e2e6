import java.lang.reflect.Constructor;
import java.lang.reflect.Field;
import java.lang.reflect.Method;
import java.lang.reflect.Modifier;
import java.util.Arrays;
import java.util.List;
import java.util.Set;
import java.util.TreeSet;
import java.util.stream.Collectors;

/** The public face of the document, and that there is no other. */
public final class FaceTest {
    private static final Check CHECK = new Check();
    private static final String INDEX = " IndexOutOfBoundsException";
    private static final String ARGUMENT = " IllegalArgumentException";
    private static final String STATE = " IllegalStateException";
    private static final String NO_ELEMENT = " NoSuchElementException";
    private static final String UNSUPPORTED = " UnsupportedOperationException";
    private static final List<String> FACE = List.of(
            "int addItem(char)" + ARGUMENT + STATE,
            "int addSubstitute(int, int, int)" + INDEX + ARGUMENT + UNSUPPORTED + STATE,
            "int receive(int, int, int, int)" + INDEX + ARGUMENT + STATE + UNSUPPORTED,
            "int move(int, int, int, int)" + INDEX + ARGUMENT + STATE + NO_ELEMENT + UNSUPPORTED,
            "int dispose(int)" + INDEX + NO_ELEMENT + UNSUPPORTED + STATE,
            "int count(int, int, int)" + INDEX + ARGUMENT + UNSUPPORTED + STATE,
            "int promise(int, int, int, boolean)" + INDEX + ARGUMENT + STATE + UNSUPPORTED,
            "int cancel(int)" + INDEX + STATE,
            "int pick(int)" + INDEX + STATE,
            "char status(int)" + INDEX,
            "int quantity(int, int)" + INDEX,
            "int available(int, int)" + INDEX + ARGUMENT,
            "int availableByTrying(int, int)" + INDEX + ARGUMENT,
            "int pickLines(int)" + INDEX + STATE,
            "int pickBin(int, int)" + INDEX + STATE + NO_ELEMENT,
            "int pickLot(int, int)" + INDEX + STATE + NO_ELEMENT,
            "int pickQuantity(int, int)" + INDEX + STATE + NO_ELEMENT,
            "int walk(int)" + INDEX + STATE,
            "int walkByTrying(int)" + INDEX + STATE,
            "int pass(int)" + ARGUMENT,
            "int day()",
            "int countsDue()",
            "int nextCount()" + NO_ELEMENT,
            "int countDay(int)" + INDEX + NO_ELEMENT,
            "int stock(int, int)" + INDEX,
            "int stockByJournal(int, int)" + INDEX,
            "int load(int)" + INDEX,
            "int lots()",
            "int nextLot(int, int)" + INDEX + NO_ELEMENT,
            "int onHand(int)" + INDEX,
            "int expired(int)" + INDEX,
            "int entries()",
            "char entryKind(int)" + INDEX,
            "int entryLot(int)" + INDEX,
            "int entryFrom(int)" + INDEX,
            "int entryTo(int)" + INDEX,
            "int entryQuantity(int)" + INDEX,
            "int onHandOn(int, int)" + INDEX + ARGUMENT,
            "float served()" + NO_ELEMENT);

    public static void main(String[] args) {
        Class<WareHall> hall = WareHall.class;
        CHECK.same("public and final", hall.getModifiers(), Modifier.PUBLIC | Modifier.FINAL);
        CHECK.same("the class above it", hall.getSuperclass(), Object.class);
        CHECK.same("interfaces", hall.getInterfaces().length, 0);
        CHECK.same("constructors", constructors(hall), "[public ()]");
        CHECK.same("methods", methods(hall), new TreeSet<>(FACE));
        for (Field field : hall.getDeclaredFields()) {
            CHECK.same("private is " + field.getName(), Modifier.isPrivate(field.getModifiers()), true);
        }
        for (Class<?> inside : hall.getDeclaredClasses()) {
            CHECK.same("static is " + inside.getName(), Modifier.isStatic(inside.getModifiers()), true);
            CHECK.same("public is " + inside.getName(), Modifier.isPublic(inside.getModifiers()), false);
        }
        namesAreNotUsedTwice(hall);
        CHECK.end("FaceTest");
    }

    private static String constructors(Class<?> type) {
        StringBuilder text = new StringBuilder("[");
        for (Constructor<?> constructor : type.getDeclaredConstructors()) {
            text.append(Modifier.toString(constructor.getModifiers())).append(" (");
            text.append(names(constructor.getParameterTypes(), ", ")).append(')');
        }
        return text.append(']').toString();
    }

    private static Set<String> methods(Class<?> type) {
        Set<String> found = new TreeSet<>();
        for (Method method : type.getDeclaredMethods()) {
            if (Modifier.isPrivate(method.getModifiers())) {
                continue;
            }
            CHECK.same("modifiers of " + method.getName(), method.getModifiers(), Modifier.PUBLIC);
            String thrown = names(method.getExceptionTypes(), " ");
            found.add(method.getReturnType().getSimpleName() + " " + method.getName() + "("
                    + names(method.getParameterTypes(), ", ") + ")" + (thrown.isEmpty() ? "" : " " + thrown));
        }
        return found;
    }

    private static String names(Class<?>[] types, String between) {
        return Arrays.stream(types).map(Class::getSimpleName).collect(Collectors.joining(between));
    }

    private static void namesAreNotUsedTwice(Class<?> hall) {
        Set<String> face = new TreeSet<>();
        for (String method : FACE) {
            face.add(method.substring(method.indexOf(' ') + 1, method.indexOf('(')));
        }
        for (Method method : hall.getDeclaredMethods()) {
            boolean ownName = Modifier.isPublic(method.getModifiers()) || !face.contains(method.getName());
            CHECK.same("a name of its own has " + method.getName(), ownName, true);
        }
        for (Class<?> inside : hall.getDeclaredClasses()) {
            for (Method method : inside.getDeclaredMethods()) {
                CHECK.same("the face has " + method.getName(), face.contains(method.getName()), false);
            }
        }
    }
}
