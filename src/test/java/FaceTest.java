import java.lang.reflect.Constructor;
import java.lang.reflect.Field;
import java.lang.reflect.Method;
import java.lang.reflect.Modifier;
import java.util.Set;
import java.util.TreeSet;

/** The public face: its members are those of the document, and there are no others. */
public final class FaceTest {
    private static final String ARGUMENT = "IllegalArgumentException";
    private static final String STATE = "IllegalStateException";
    private static final String FULL = "UnsupportedOperationException";
    private static final String INDEX = "IndexOutOfBoundsException";

    public static void main(String[] args) {
        Set<String> due = new TreeSet<>();
        due.add("void open(int, int) " + throwing(ARGUMENT, STATE, FULL));
        due.add("void attribute(int, int, int) " + throwing(ARGUMENT, STATE, FULL));
        due.add("void text(int) " + throwing(ARGUMENT, STATE, FULL));
        due.add("int close() " + throwing(STATE, FULL));
        due.add("void clear() " + throwing());
        due.add("int written() " + throwing());
        due.add("int keep() " + throwing());
        due.add("int push(boolean) " + throwing(STATE));
        due.add("int bit(int) " + throwing(INDEX));
        due.add("void flip(int) " + throwing(INDEX));
        due.add("void cut(int) " + throwing(ARGUMENT));
        due.add("int read() " + throwing(ARGUMENT, FULL));
        due.add("int taken() " + throwing());
        due.add("int event(int, int) " + throwing(INDEX, ARGUMENT));
        due.add("int again() " + throwing(STATE, FULL));

        Check.due("modifiers of the class", LearnedCodes.class.getModifiers(),
                Modifier.PUBLIC | Modifier.FINAL);
        Set<String> found = new TreeSet<>();
        for (Method method : LearnedCodes.class.getDeclaredMethods()) {
            if (!Modifier.isPrivate(method.getModifiers())) {
                Check.due("modifiers of " + method, method.getModifiers(), Modifier.PUBLIC);
                found.add(method.getReturnType() + " " + method.getName() + "("
                        + names(method.getParameterTypes()) + ") "
                        + throwing(names(method.getExceptionTypes()).split(", ")));
            }
        }
        Check.due("methods", found, due);
        onlyOneConstructor();
        nothingElse();
        Check.end();
    }

    private static String throwing(String... exceptions) {
        Set<String> names = new TreeSet<>(Set.of(exceptions));
        names.remove("");
        return "throws " + names;
    }

    private static String names(Class<?>... types) {
        StringBuilder names = new StringBuilder();
        for (Class<?> type : types) {
            names.append(names.length() == 0 ? "" : ", ").append(type.getSimpleName());
        }
        return names.toString();
    }

    private static void onlyOneConstructor() {
        Constructor<?>[] constructors = LearnedCodes.class.getDeclaredConstructors();
        Check.due("constructors", constructors.length, 1);
        Check.due("constructor", constructors[0].toString(), "public LearnedCodes()");
    }

    private static void nothingElse() {
        for (Field field : LearnedCodes.class.getDeclaredFields()) {
            Check.due(field + " is private", Modifier.isPrivate(field.getModifiers()), true);
        }
        for (Class<?> inside : LearnedCodes.class.getDeclaredClasses()) {
            int modifiers = inside.getModifiers();
            Check.due(inside + " is static", Modifier.isStatic(modifiers), true);
            Check.due(inside + " is seen outside",
                    Modifier.isPublic(modifiers) || Modifier.isProtected(modifiers), false);
        }
    }
}
