import java.lang.reflect.InvocationTargetException;
import java.lang.reflect.Method;
import java.lang.reflect.Modifier;
import java.util.HashMap;
import java.util.Map;

/** Calls of the class by their names; an answer is a text, "throws" where the call throws as it may. */
final class Calls {
    static final String THROWS = "throws";
    /** What an object is promised to answer. */
    static final int MOST = 512;

    private static final Map<String, Method> METHODS = new HashMap<>();

    static {
        for (Method method : NumberOffice.class.getDeclaredMethods()) {
            if (Modifier.isPublic(method.getModifiers())) {
                METHODS.put(method.getName(), method);
            }
        }
    }

    private Calls() { }

    static String answer(NumberOffice office, String name, long... arguments) {
        Method method = METHODS.get(name);
        if (method == null || method.getParameterCount() != arguments.length) {
            return "no such call: " + name;
        }
        try {
            return String.valueOf(method.invoke(office, values(method.getParameterTypes(), arguments)));
        } catch (InvocationTargetException e) {
            Throwable thrown = e.getCause();
            return thrown.getClass() == IllegalStateException.class ? THROWS : "throws " + thrown;
        } catch (IllegalAccessException e) {
            return e.toString();
        }
    }

    private static Object[] values(Class<?>[] types, long[] arguments) {
        Object[] values = new Object[types.length];
        for (int i = 0; i < types.length; i++) {
            if (types[i] == long.class) {
                values[i] = arguments[i];
            } else {
                values[i] = Math.toIntExact(arguments[i]);
            }
        }
        return values;
    }
}
