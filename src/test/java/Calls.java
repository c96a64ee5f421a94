import java.lang.reflect.Method;
import java.util.HashMap;
import java.util.Map;

/** Makes calls by name, on a LockedTree or on anything else with methods of the same names. */
final class Calls {
    private static final Map<String, Method> FOUND = new HashMap<>();

    private Calls() {
    }

    /** The answer as a number; a boolean counts 1 or 0, as an answer and as an argument. */
    static long make(Object target, String name, int... arguments) {
        String key = target.getClass().getName() + "." + name;
        return answer(target, FOUND.computeIfAbsent(key, k -> find(target, name)), arguments);
    }

    private static Method find(Object target, String name) {
        for (Method method : target.getClass().getMethods()) {
            if (method.getName().equals(name)) {
                return method;
            }
        }
        throw new IllegalArgumentException("no method " + name);
    }

    private static long answer(Object target, Method method, int[] arguments) {
        Class<?>[] types = method.getParameterTypes();
        Object[] values = new Object[arguments.length];
        for (int i = 0; i < values.length; i++) {
            values[i] = value(types[i], arguments[i]);
        }
        try {
            Object answer = method.invoke(target, values);
            return answer instanceof Boolean ? ((Boolean) answer ? 1 : 0) : ((Number) answer).longValue();
        } catch (ReflectiveOperationException e) {
            throw new IllegalStateException(method.getName() + " failed", e);
        }
    }

    private static Object value(Class<?> type, int argument) {
        if (type == boolean.class) {
            return argument != 0;
        }
        if (type == char.class) {
            return (char) argument;
        }
        return argument;
    }
}
