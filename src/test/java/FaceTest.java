import java.lang.reflect.Constructor;
import java.lang.reflect.Executable;
import java.lang.reflect.Field;
import java.lang.reflect.Method;
import java.lang.reflect.Modifier;
import java.lang.reflect.Parameter;
import java.util.ArrayList;
import java.util.List;
import java.util.TreeSet;

/**
 * The class has the document's face, with its throws clauses, and nothing else to be seen. The
 * names of parameters are there to be asked because .ci/run compiles with -parameters.
 */
public final class FaceTest {
    private static final String[] FACE = {
        "int tier(int sets, int ways, int choosing, int writing, boolean closed) IllegalArgumentException, UnsupportedOperationException, IllegalStateException",
        "int read(int word) IndexOutOfBoundsException",
        "void write(int word, int value) IndexOutOfBoundsException",
        "void fill(int word, int n, int value, int step) IllegalArgumentException, IndexOutOfBoundsException",
        "int run(int seed, int n, int span) IllegalArgumentException",
        "int peek(int word) IndexOutOfBoundsException",
        "int stored(int word) IndexOutOfBoundsException",
        "int flush(int tier) IndexOutOfBoundsException",
        "int empty(int tier) IndexOutOfBoundsException",
        "int crash() ",
        "int count(int tier, int what) IndexOutOfBoundsException, IllegalArgumentException",
        "int traffic(boolean stores) ",
        "int line(int tier, int set, int way) IndexOutOfBoundsException",
        "int way(int tier, int block) IndexOutOfBoundsException",
        "int dirty(int tier, int block) IndexOutOfBoundsException",
        "int next(int tier, int set) IndexOutOfBoundsException",
        "int tiers() ",
        "int astray() ",
    };

    public static void main(String[] args) {
        Check check = new Check("FaceTest");
        Class<?> face = CacheLadder.class;
        check.due("modifiers", Modifier.toString(face.getModifiers()), "public final");
        checkMethods(check, face);
        checkConstructors(check, face);
        checkFields(check, face);
        checkClassesInside(check, face);
        check.end();
    }

    private static void checkMethods(Check check, Class<?> face) {
        TreeSet<String> seen = new TreeSet<>();
        TreeSet<String> names = new TreeSet<>();
        for (Method m : face.getDeclaredMethods()) {
            if (!Modifier.isPrivate(m.getModifiers()) && !m.isSynthetic()) {
                seen.add(m.getReturnType().getSimpleName() + " " + m.getName() + told(m));
                names.add(m.getName());
            }
        }
        check.due("methods", String.join("; ", seen), String.join("; ", new TreeSet<>(List.of(FACE))));
        for (Method m : face.getDeclaredMethods()) {
            if (Modifier.isPrivate(m.getModifiers())) {
                check.due("private methods named " + m.getName(), names.contains(m.getName()) ? 1 : 0, 0);
            }
        }
    }

    private static void checkConstructors(Check check, Class<?> face) {
        Constructor<?>[] all = face.getDeclaredConstructors();
        check.due("constructors", all.length, 1);
        check.due("constructor", Modifier.toString(all[0].getModifiers()) + told(all[0]), "public() ");
    }

    private static void checkFields(Check check, Class<?> face) {
        for (Field f : face.getDeclaredFields()) {
            int modifiers = f.getModifiers();
            check.due("private field " + f.getName(), Modifier.isPrivate(modifiers) ? 1 : 0, 1);
            if (Modifier.isStatic(modifiers)) {
                check.due("final static " + f.getName(), Modifier.isFinal(modifiers) ? 1 : 0, 1);
            }
        }
    }

    private static void checkClassesInside(Check check, Class<?> face) {
        for (Class<?> inside : face.getDeclaredClasses()) {
            int modifiers = inside.getModifiers();
            boolean seen = Modifier.isPublic(modifiers) || Modifier.isProtected(modifiers);
            check.due("class " + inside.getSimpleName() + " is to be seen", seen ? 1 : 0, 0);
            check.due("class " + inside.getSimpleName() + " is static", Modifier.isStatic(modifiers) ? 1 : 0, 1);
        }
    }

    private static String told(Executable e) {
        List<String> parameters = new ArrayList<>();
        for (Parameter p : e.getParameters()) {
            parameters.add(p.getType().getSimpleName() + " " + p.getName());
        }
        List<String> exceptions = new ArrayList<>();
        for (Class<?> exception : e.getExceptionTypes()) {
            exceptions.add(exception.getSimpleName());
        }
        return "(" + String.join(", ", parameters) + ") " + String.join(", ", exceptions);
    }
}
