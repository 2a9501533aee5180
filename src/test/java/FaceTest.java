import java.lang.reflect.Constructor;
import java.lang.reflect.Field;
import java.lang.reflect.Method;
import java.lang.reflect.Modifier;
import java.util.Set;
import java.util.TreeSet;

/** The class has the document's face, and no other member that can be seen from outside. */
public final class FaceTest {
    private static final Set<String> METHODS = new TreeSet<>(Set.of(
        "int set(int, int)", "int read()", "int change(int, int)", "int drop(int)", "int join(int)",
        "int rename(int)", "int entry(int, int)", "int page(int, int)", "int fold(int, boolean)", "int count(int)",
        "int lookFor()", "int find()", "int ifSet(int, int)", "int leastLines(int)", "int bestLines(int)",
        "int put(long)", "int wipe()", "int fault()", "int undo()", "int save(int)", "int restore(int)"));

    public static void main(String[] args) throws IllegalAccessException {
        Check.holds("the class is public and final",
            RunningHeads.class.getModifiers() == (Modifier.PUBLIC | Modifier.FINAL));
        methods();
        constants();
        constructors();
        classesInside();
        Check.end();
    }

    private static void methods() {
        Set<String> seen = new TreeSet<>();
        for (Method method : RunningHeads.class.getDeclaredMethods()) {
            if (Modifier.isPrivate(method.getModifiers())) {
                continue;
            }
            Check.holds(method + " is public and no more", method.getModifiers() == Modifier.PUBLIC);
            StringBuilder types = new StringBuilder();
            for (Class<?> type : method.getParameterTypes()) {
                types.append(types.length() == 0 ? "" : ", ").append(type.getName());
            }
            seen.add(method.getReturnType().getName() + " " + method.getName() + "(" + types + ")");
        }
        Check.text("the methods", seen.toString(), METHODS.toString());
    }

    private static void constants() throws IllegalAccessException {
        String[] names = {"NO_SUCH", "BAD_VALUE", "BAD_TEXT", "TOO_MANY", "NOT_POSSIBLE", "NONE", "LINES", "WIDTH", "KEEP"};
        int[] values = {-1, -2, -3, -4, -5, -6, 0, 1, 2};
        int seen = 0;
        for (Field field : RunningHeads.class.getDeclaredFields()) {
            if (Modifier.isPrivate(field.getModifiers())) {
                continue;
            }
            Check.holds(field + " is a public constant",
                field.getModifiers() == (Modifier.PUBLIC | Modifier.STATIC | Modifier.FINAL) && field.getType() == int.class);
            for (int i = 0; i < names.length; i++) {
                if (field.getName().equals(names[i])) {
                    seen++;
                    Check.due(names[i], field.getInt(null), values[i]);
                }
            }
        }
        Check.due("constants", seen, names.length);
    }

    private static void constructors() {
        Constructor<?>[] all = RunningHeads.class.getDeclaredConstructors();
        Check.due("constructors", all.length, 1);
        Check.holds("it is public", all[0].getModifiers() == Modifier.PUBLIC);
        Check.due("its parameters", all[0].getParameterCount(), 0);
    }

    private static void classesInside() {
        for (Class<?> inside : RunningHeads.class.getDeclaredClasses()) {
            Check.holds(inside + " is static and not public",
                Modifier.isStatic(inside.getModifiers()) && !Modifier.isPublic(inside.getModifiers()));
            for (Method method : inside.getDeclaredMethods()) {
                for (String face : METHODS) {
                    Check.holds(method + " has no name of the face", !face.contains(" " + method.getName() + "("));
                }
            }
        }
    }
}
