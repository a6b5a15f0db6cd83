import java.lang.reflect.Constructor;
import java.lang.reflect.Executable;
import java.lang.reflect.Field;
import java.lang.reflect.Method;
import java.lang.reflect.Modifier;
import java.util.TreeSet;

/** The class has the document's face, with its throws clauses, and nothing else to be seen. */
public final class FaceTest {
    private static final String[] FACE = {
        "int tier(int, int, int, int, boolean) IllegalArgumentException, UnsupportedOperationException, IllegalStateException",
        "int read(int) IndexOutOfBoundsException",
        "void write(int, int) IndexOutOfBoundsException",
        "void fill(int, int, int, int) IllegalArgumentException, IndexOutOfBoundsException",
        "int run(int, int, int) IllegalArgumentException",
        "int peek(int) IndexOutOfBoundsException",
        "int stored(int) IndexOutOfBoundsException",
        "int flush(int) IndexOutOfBoundsException",
        "int empty(int) IndexOutOfBoundsException",
        "int crash() ",
        "int count(int, int) IndexOutOfBoundsException, IllegalArgumentException",
        "int traffic(boolean) ",
        "int line(int, int, int) IndexOutOfBoundsException",
        "int way(int, int) IndexOutOfBoundsException",
        "int dirty(int, int) IndexOutOfBoundsException",
        "int next(int, int) IndexOutOfBoundsException",
        "int tiers() ",
        "int astray() ",
    };

    public static void main(String[] args) {
        Check check = new Check("FaceTest");
        Class<?> face = CacheLadder.class;
        check.due("modifiers", Modifier.toString(face.getModifiers()), "public final");
        checkMethods(check, face);
        checkConstructors(check, face);
        checkFields(check, face);
        check.end();
    }

    private static void checkMethods(Check check, Class<?> face) {
        TreeSet<String> seen = new TreeSet<>();
        TreeSet<String> names = new TreeSet<>();
        for (Method m : face.getDeclaredMethods()) {
            if (!Modifier.isPrivate(m.getModifiers()) && !m.isSynthetic()) {
                seen.add(m.getReturnType().getSimpleName() + " " + m.getName() + told(m));
                names.add(m.getName());
            }
        }
        check.due("methods", String.join("; ", seen), String.join("; ", new TreeSet<>(java.util.List.of(FACE))));
        for (Method m : face.getDeclaredMethods()) {
            if (Modifier.isPrivate(m.getModifiers())) {
                check.due("private methods named " + m.getName(), names.contains(m.getName()) ? 1 : 0, 0);
            }
        }
    }

    private static void checkConstructors(Check check, Class<?> face) {
        Constructor<?>[] all = face.getDeclaredConstructors();
        check.due("constructors", all.length, 1);
        check.due("constructor", Modifier.toString(all[0].getModifiers()) + told(all[0]), "public() ");
    }

    private static void checkFields(Check check, Class<?> face) {
        for (Field f : face.getDeclaredFields()) {
            int modifiers = f.getModifiers();
            check.due("private field " + f.getName(), Modifier.isPrivate(modifiers) ? 1 : 0, 1);
            if (Modifier.isStatic(modifiers)) {
                check.due("final static " + f.getName(), Modifier.isFinal(modifiers) ? 1 : 0, 1);
            }
        }
    }

    private static String told(Executable e) {
        return "(" + names(e.getParameterTypes()) + ") " + names(e.getExceptionTypes());
    }

    private static String names(Class<?>[] types) {
        StringBuilder names = new StringBuilder();
        for (Class<?> type : types) {
            names.append(names.length() == 0 ? "" : ", ").append(type.getSimpleName());
        }
        return names.toString();
    }
}
