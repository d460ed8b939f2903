import java.lang.reflect.Constructor;
import java.lang.reflect.Field;
import java.lang.reflect.Method;
import java.lang.reflect.Modifier;
import java.util.Arrays;
import java.util.Set;
import java.util.TreeSet;

/** The class has the document's face, and what else it has is private. */
public final class FaceTest {
    private static final Set<String> DUE = new TreeSet<>(Arrays.asList(
        "boolean poke[int, int]", "boolean set[int, int]", "boolean feed[int]", "int run[int]", "boolean go[int]",
        "int seek[]", "int time[]", "int last[]", "boolean stop[int, boolean]", "boolean watch[int, boolean]",
        "int cell[int]", "int register[int]", "int waiting[]", "int puts[]", "int output[int]", "int wrote[int]"));

    public static void main(String[] args) {
        Check check = new Check();
        Class<?> type = ReplayDesk.class;
        check.due("public", Modifier.isPublic(type.getModifiers()), true);
        check.due("final", Modifier.isFinal(type.getModifiers()), true);
        check.due("package", type.getPackageName().isEmpty(), true);
        constructors(check, type);
        methods(check, type);
        fields(check, type);
        for (Class<?> inside : type.getDeclaredClasses()) {
            check.due("static " + inside, Modifier.isStatic(inside.getModifiers()), true);
            check.due("not seen " + inside, Modifier.isPublic(inside.getModifiers()), false);
            fields(check, inside);
        }
        check.finish();
    }

    private static void constructors(Check check, Class<?> type) {
        Constructor<?>[] all = type.getDeclaredConstructors();
        check.due("constructors", all.length, 1);
        check.due("its parameters", all[0].getParameterCount(), 0);
        check.due("public constructor", Modifier.isPublic(all[0].getModifiers()), true);
    }

    private static void methods(Check check, Class<?> type) {
        Set<String> seen = new TreeSet<>();
        Set<String> names = new TreeSet<>();
        for (Method method : type.getDeclaredMethods()) {
            if (!Modifier.isPrivate(method.getModifiers())) {
                seen.add(method.getReturnType() + " " + method.getName() + Arrays.toString(method.getParameterTypes()));
                names.add(method.getName());
                check.due("public " + method, Modifier.isPublic(method.getModifiers()), true);
                check.due("static " + method, Modifier.isStatic(method.getModifiers()), false);
            }
        }
        check.due("the methods " + seen, seen.equals(DUE), true);
        privateNames(check, type, names);
        for (Class<?> inside : type.getDeclaredClasses()) {
            privateNames(check, inside, names);
        }
    }

    private static void privateNames(Check check, Class<?> type, Set<String> taken) {
        for (Method method : type.getDeclaredMethods()) {
            if (Modifier.isPrivate(method.getModifiers())) {
                check.due("a public one's name: " + method, taken.contains(method.getName()), false);
            }
        }
    }

    private static void fields(Check check, Class<?> type) {
        for (Field field : type.getDeclaredFields()) {
            int modifiers = field.getModifiers();
            check.due("private " + field, Modifier.isPrivate(modifiers), true);
            check.due("final if static " + field, !Modifier.isStatic(modifiers) || Modifier.isFinal(modifiers), true);
        }
    }
}
