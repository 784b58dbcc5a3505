import java.lang.reflect.Constructor;
import java.lang.reflect.Field;
import java.lang.reflect.Method;
import java.lang.reflect.Modifier;
import java.util.Arrays;
import java.util.TreeSet;

/** The public face: what the document names, and no other member that can be seen. */
public final class FaceTest {
    public static void main(String[] args) {
        Check check = new Check();
        int modifiers = ChunkCode.class.getModifiers();
        check.same("public final", "true", String.valueOf(Modifier.isPublic(modifiers) && Modifier.isFinal(modifiers)));
        check.same("methods", "[int code(int, int, int), int compile(), int depth(int), int flaws(), int function(int, int), "
            + "int functions(), int outer(int, int, int), int place(), int word(int, int)]", methods());
        check.same("fields", "[BAD, FULL]", fields());
        check.same("constructors", "[public 0]", constructors());
        check.same("BAD", -1, ChunkCode.BAD);
        check.same("FULL", -3, ChunkCode.FULL);
        check.end();
    }

    private static String methods() {
        TreeSet<String> seen = new TreeSet<>();
        for (Method method : ChunkCode.class.getDeclaredMethods()) {
            if (!Modifier.isPrivate(method.getModifiers()) && !method.isSynthetic()) {
                String types = Arrays.toString(method.getParameterTypes());
                seen.add(method.getReturnType() + " " + method.getName() + "(" + types.substring(1, types.length() - 1) + ")");
            }
        }
        return seen.toString();
    }

    private static String fields() {
        TreeSet<String> seen = new TreeSet<>();
        for (Field field : ChunkCode.class.getDeclaredFields()) {
            if (!Modifier.isPrivate(field.getModifiers()) && !field.isSynthetic()) {
                seen.add(field.getName());
            }
        }
        return seen.toString();
    }

    private static String constructors() {
        TreeSet<String> seen = new TreeSet<>();
        for (Constructor<?> constructor : ChunkCode.class.getDeclaredConstructors()) {
            if (!constructor.isSynthetic()) {
                seen.add(Modifier.toString(constructor.getModifiers()) + " " + constructor.getParameterCount());
            }
        }
        return seen.toString();
    }
}
