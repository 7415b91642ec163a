import java.lang.reflect.Constructor;
import java.lang.reflect.Field;
import java.lang.reflect.Method;
import java.lang.reflect.Modifier;
import java.util.Arrays;
import java.util.Set;
import java.util.TreeSet;

/** The public face, and the rules 1, 5 and 11 of LANGUAGE.md as far as the class itself tells of them. */
public final class FaceTest {
    private static final Check CHECK = new Check();
    private static final Set<String> FACE = Set.of(
            "boolean pair(int, int, boolean)", "int plan()", "boolean start(int)", "boolean stop(int)",
            "boolean drift(int, int)", "boolean radio(int, long, long)", "int sample(int, int)",
            "boolean control(int, int, int, int)", "int run(int)", "int rank(int)", "int parent(int, int)",
            "int cell(int, int)", "boolean current(int)", "int offset(int)", "int count(int, int)",
            "int cached(int, int)", "int latest(int)", "int actuator(int)", "int sent()");

    public static void main(String[] args) {
        CHECK.due("NONE", SlottedMesh.NONE, -1);
        CHECK.due("MISSING", SlottedMesh.MISSING, -9999);
        CHECK.due("public and final", SlottedMesh.class.getModifiers(), Modifier.PUBLIC | Modifier.FINAL);
        methods();
        fields();
        Constructor<?>[] made = SlottedMesh.class.getDeclaredConstructors();
        CHECK.due("one constructor", made.length, 1);
        CHECK.due("it is public", Modifier.isPublic(made[0].getModifiers()), true);
        CHECK.due("it takes three ints",
                Arrays.equals(made[0].getParameterTypes(), new Class<?>[] {int.class, int.class, int.class}), true);
        CHECK.due("few classes", SlottedMesh.class.getDeclaredClasses().length <= 11, true);
        for (Class<?> inside : SlottedMesh.class.getDeclaredClasses()) {
            CHECK.due(inside + " is static", Modifier.isStatic(inside.getModifiers()), true);
            limits(inside);
        }
        limits(SlottedMesh.class);
        CHECK.end("FaceTest");
    }

    private static void methods() {
        Set<String> found = new TreeSet<>();
        Set<String> names = new TreeSet<>();
        for (Method method : SlottedMesh.class.getDeclaredMethods()) {
            if (Modifier.isPublic(method.getModifiers())) {
                String inner = String.join(", ",
                        Arrays.stream(method.getParameterTypes()).map(Class::getSimpleName).toList());
                found.add(method.getReturnType().getSimpleName() + " " + method.getName() + "(" + inner + ")");
                names.add(method.getName());
            }
        }
        CHECK.due("public methods are the document's: " + found, found.equals(FACE), true);
        for (Method method : SlottedMesh.class.getDeclaredMethods()) {
            int modifiers = method.getModifiers();
            if (!Modifier.isPublic(modifiers)) {
                CHECK.due(method + " is private", Modifier.isPrivate(modifiers), true);
                CHECK.due(method + " has a name of its own", names.contains(method.getName()), false);
            }
        }
    }

    private static void fields() {
        Set<String> open = new TreeSet<>();
        for (Field field : SlottedMesh.class.getDeclaredFields()) {
            if (!Modifier.isPrivate(field.getModifiers())) {
                open.add(field.getName());
            }
        }
        CHECK.due("open fields are the constants: " + open, open.equals(Set.of("NONE", "MISSING")), true);
    }

    private static void limits(Class<?> type) {
        int fields = 0;
        for (Field field : type.getDeclaredFields()) {
            if (Modifier.isStatic(field.getModifiers())) {
                CHECK.due(field + " is final", Modifier.isFinal(field.getModifiers()), true);
            } else {
                fields++;
            }
        }
        CHECK.due(type + " has at most twenty fields", fields <= 20, true);
        for (Method method : type.getDeclaredMethods()) {
            CHECK.due(method + " has at most seven parameters", method.getParameterCount() <= 7, true);
        }
    }
}
