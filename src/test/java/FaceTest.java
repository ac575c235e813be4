import java.lang.reflect.Constructor;
import java.lang.reflect.Field;
import java.lang.reflect.Method;
import java.lang.reflect.Modifier;
import java.util.Set;
import java.util.TreeSet;

/** The public face of the document, and the rules of LANGUAGE.md that can be seen from outside the source. */
public final class FaceTest {
    private static final Set<String> FACE = Set.of(
            "boolean vertex 5", "boolean paint 5", "boolean coords 3", "boolean texel 3", "boolean set 2",
            "boolean scissor 4", "boolean clear 2", "int step 4", "boolean keep 1", "int draw 3", "int pixel 2",
            "int at 3", "int error 0", "int count 1");
    private static final Checks checks = new Checks();

    public static void main(String[] args) {
        Class<?> face = PixelPipe.class;
        checks.due("public and final", face.getModifiers(), Modifier.PUBLIC | Modifier.FINAL);
        checks.due("no class inside", face.getDeclaredClasses().length, 0);
        constructors(face);
        methods(face);
        fields(face);
        checks.end();
    }

    private static void constructors(Class<?> face) {
        Constructor<?>[] all = face.getDeclaredConstructors();
        checks.due("constructors", all.length, 1);
        checks.due("public constructor", Modifier.isPublic(all[0].getModifiers()), true);
        checks.due("constructor's parameters", all[0].getParameterCount(), 0);
    }

    private static void methods(Class<?> face) {
        Set<String> found = new TreeSet<>();
        Set<String> names = new TreeSet<>();
        for (Method method : face.getDeclaredMethods()) {
            checks.due("a name once: " + method.getName(), names.add(method.getName()), true);
            checks.due("at most seven parameters: " + method.getName(), method.getParameterCount() <= 7, true);
            if (!Modifier.isPrivate(method.getModifiers())) {
                checks.due("public: " + method.getName(), method.getModifiers(), Modifier.PUBLIC);
                found.add(method.getReturnType() + " " + method.getName() + " " + method.getParameterCount());
            }
        }
        checks.due("the methods of the document", found.equals(new TreeSet<>(FACE)), true);
    }

    private static void fields(Class<?> face) {
        int constants = 0;
        int others = 0;
        for (Field field : face.getDeclaredFields()) {
            int modifiers = field.getModifiers();
            if (Modifier.isStatic(modifiers)) {
                checks.due("a constant: " + field.getName(), Modifier.isFinal(modifiers), true);
                checks.due("an int: " + field.getName(), field.getType() == int.class, true);
            } else {
                others++;
                checks.due("private: " + field.getName(), Modifier.isPrivate(modifiers), true);
            }
            if (!Modifier.isPrivate(modifiers)) {
                constants++;
            }
        }
        checks.due("constants of the document", constants, 3);
        checks.due("at most forty fields", others <= 40, true);
    }
}
