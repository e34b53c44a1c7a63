import java.lang.reflect.Constructor;
import java.lang.reflect.Field;
import java.lang.reflect.Method;
import java.lang.reflect.Modifier;
import java.util.ArrayList;
import java.util.Arrays;
import java.util.Collections;
import java.util.HashSet;
import java.util.List;
import java.util.Set;

/** The face of the class is that of the document, and nothing else of it can be seen. */
public final class FaceTest {
    private static final String BOUNDS = "IndexOutOfBoundsException";
    private static final String ARGUMENT = "IllegalArgumentException";
    private static final String STATE = "IllegalStateException";
    private static final String UNSUPPORTED = "UnsupportedOperationException";
    private static final String MISSING = "NoSuchElementException";

    private static final Check CHECK = new Check("FaceTest");

    public static void main(String[] args) {
        int modifiers = Quaylock.class.getModifiers();
        CHECK.same("public", Modifier.isPublic(modifiers), true);
        CHECK.same("final", Modifier.isFinal(modifiers), true);
        CHECK.same("constructors", constructors(), List.of("Quaylock()"));
        List<String> due = new ArrayList<>(documented());
        Collections.sort(due);
        CHECK.same("methods", methods(), due);
        membersInside();
        staticFields();
        CHECK.end();
    }

    private static List<String> constructors() {
        List<String> found = new ArrayList<>();
        for (Constructor<?> made : Quaylock.class.getDeclaredConstructors()) {
            found.add((Modifier.isPublic(made.getModifiers()) ? "" : "hidden ") + "Quaylock"
                    + parameters(made.getParameterTypes()) + thrown(made.getExceptionTypes()));
        }
        return found;
    }

    private static List<String> methods() {
        List<String> found = new ArrayList<>();
        for (Method method : Quaylock.class.getDeclaredMethods()) {
            if (!Modifier.isPrivate(method.getModifiers())) {
                found.add((Modifier.isPublic(method.getModifiers()) ? "" : "hidden ") + method.getReturnType() + " "
                        + method.getName() + parameters(method.getParameterTypes())
                        + thrown(method.getExceptionTypes()));
            }
        }
        Collections.sort(found);
        return found;
    }

    private static String parameters(Class<?>[] types) {
        List<String> names = new ArrayList<>();
        for (Class<?> type : types) {
            names.add(type.getName());
        }
        return "(" + String.join(", ", names) + ")";
    }

    private static String thrown(Class<?>[] types) {
        StringBuilder names = new StringBuilder();
        for (Class<?> type : types) {
            names.append(' ').append(type.getSimpleName());
        }
        return names.toString();
    }

    private static String method(String signature, String... exceptions) {
        return exceptions.length == 0 ? signature : signature + " " + String.join(" ", exceptions);
    }

    private static List<String> documented() {
        return Arrays.asList(
                method("int addStack(int)", ARGUMENT, STATE),
                method("int addBox(int, int)", BOUNDS, ARGUMENT, UNSUPPORTED, STATE),
                method("int boxes()"),
                method("boolean isInYard(int)"),
                method("int weight(int)", BOUNDS),
                method("int stackOf(int)", BOUNDS),
                method("int level(int)", BOUNDS),
                method("int above(int)", BOUNDS),
                method("int height(int)", BOUNDS),
                method("int boxAt(int, int)", BOUNDS, MISSING),
                method("int hold(int, char, int)", BOUNDS, ARGUMENT),
                method("int release(int)", BOUNDS, STATE),
                method("char holdOf(int)", BOUNDS),
                method("int heldUntil(int)", BOUNDS, MISSING),
                method("int pinnedAbove(int)", BOUNDS),
                method("char why(int, int)", BOUNDS),
                method("int move(int, int)", BOUNDS, UNSUPPORTED),
                method("int planLength(int)", BOUNDS, MISSING),
                method("int planByTrying(int)", BOUNDS, MISSING),
                method("int planBox(int, int)", BOUNDS, MISSING),
                method("int planStack(int, int)", BOUNDS, MISSING),
                method("int dig(int)", BOUNDS, MISSING),
                method("int moves()"),
                method("int book(int, int, int)", BOUNDS, ARGUMENT, UNSUPPORTED, STATE),
                method("int cancel(int)", BOUNDS, STATE),
                method("char stateOf(int)", BOUNDS),
                method("int appointmentOf(int)", BOUNDS, MISSING),
                method("int inLane(int, int)", BOUNDS, ARGUMENT),
                method("int firstHour(int)", BOUNDS, MISSING),
                method("int pass(int)", ARGUMENT),
                method("int now()"),
                method("long weightLeft()"),
                method("float doneShare()", MISSING));
    }

    /** LANGUAGE.md, rule 1. */
    private static void membersInside() {
        Set<String> open = new HashSet<>();
        for (Method method : Quaylock.class.getMethods()) {
            if (method.getDeclaringClass() == Quaylock.class) {
                open.add(method.getName());
            }
        }
        for (Field field : Quaylock.class.getDeclaredFields()) {
            CHECK.same("field " + field.getName() + " is private", Modifier.isPrivate(field.getModifiers()), true);
        }
        List<Class<?>> all = new ArrayList<>(Arrays.asList(Quaylock.class.getDeclaredClasses()));
        for (Class<?> inside : all) {
            CHECK.same(inside + " is static", Modifier.isStatic(inside.getModifiers()), true);
            CHECK.same(inside + " can be seen", Modifier.isPublic(inside.getModifiers()), false);
        }
        all.add(Quaylock.class);
        for (Class<?> type : all) {
            for (Method method : type.getDeclaredMethods()) {
                boolean bearsOpenName = Modifier.isPrivate(method.getModifiers()) && open.contains(method.getName());
                CHECK.same(method + " bears a public name", bearsOpenName, false);
            }
        }
    }

    /** LANGUAGE.md, rule 5: here no static field but constants of numbers and signs is needed. */
    private static void staticFields() {
        List<Class<?>> all = new ArrayList<>(Arrays.asList(Quaylock.class.getDeclaredClasses()));
        all.add(Quaylock.class);
        for (Class<?> type : all) {
            for (Field field : type.getDeclaredFields()) {
                if (Modifier.isStatic(field.getModifiers())) {
                    CHECK.same(field + " is final", Modifier.isFinal(field.getModifiers()), true);
                    CHECK.same(field + " is a number or a sign", field.getType().isPrimitive(), true);
                }
            }
        }
    }
}
