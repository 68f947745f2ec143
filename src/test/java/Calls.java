import java.lang.reflect.InvocationTargetException;
import java.lang.reflect.Method;
import java.lang.reflect.Modifier;
import java.util.HashMap;
import java.util.Map;

/** Calls methods by their names; an exception is told as "throws" and its name. */
final class Calls {

    private static final Map<String, Method> KNOWN = new HashMap<>();

    private Calls() {
    }

    static Method named(Class<?> type, String name) {
        // Asking the class for its methods is slow, and the long runs do it often.
        return KNOWN.computeIfAbsent(type.getName() + "." + name, key -> found(type, name));
    }

    private static Method found(Class<?> type, String name) {
        for (Method method : type.getDeclaredMethods()) {
            if (method.getName().equals(name) && !Modifier.isPrivate(method.getModifiers())) {
                return method;
            }
        }
        throw new IllegalArgumentException("no method " + name);
    }

    static String answer(Object object, Method method, Object... arguments) {
        try {
            return String.valueOf(method.invoke(object, arguments));
        } catch (InvocationTargetException thrown) {
            return "throws " + thrown.getCause().getClass().getSimpleName();
        } catch (IllegalAccessException error) {
            throw new IllegalStateException(error);
        }
    }

    static String answer(Object object, String name, Object... arguments) {
        return answer(object, named(object.getClass(), name), arguments);
    }
}
