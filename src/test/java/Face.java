import java.lang.reflect.InvocationTargetException;
import java.lang.reflect.Method;
import java.lang.reflect.Modifier;
import java.util.Arrays;

/** Calls of the face by name, so that a test can tell a call and make it with the same words. */
final class Face {
    private Face() {
    }

    static int call(CopiedSkins x, String name, Object... arguments) {
        try {
            return (Integer) named(name).invoke(x, arguments);
        } catch (InvocationTargetException thrown) {
            throw new IllegalStateException(told(name, arguments) + " threw " + thrown.getCause(), thrown);
        } catch (IllegalAccessException closed) {
            throw new IllegalStateException(closed);
        }
    }

    static String told(String name, Object... arguments) {
        String list = Arrays.toString(arguments);
        return name + "(" + list.substring(1, list.length() - 1) + ")";
    }

    private static Method named(String name) {
        for (Method m : CopiedSkins.class.getDeclaredMethods()) {
            if (m.getName().equals(name) && Modifier.isPublic(m.getModifiers())) {
                return m;
            }
        }
        throw new IllegalStateException("the face has no " + name);
    }
}
