import java.lang.reflect.InvocationTargetException;
import java.lang.reflect.Method;
import java.lang.reflect.Modifier;
import java.util.Map;
import java.util.TreeMap;

/** Calls of an object by their names; a boolean is told as 1 or 0. */
final class Calls {
    /** What a call answers that threw: no call may. */
    static final long THREW = Long.MIN_VALUE + 7;

    private static final Map<String, Method> METHODS = new TreeMap<>();

    static {
        for (Method method : CapitalMoved.class.getDeclaredMethods()) {
            if (Modifier.isPublic(method.getModifiers())) {
                METHODS.put(method.getName(), method);
            }
        }
    }

    private Calls() {
    }

    static long ask(CapitalMoved x, String name, long... a) {
        Method method = METHODS.get(name);
        try {
            return ((Number) method.invoke(x, boxed(method, a))).longValue();
        } catch (InvocationTargetException e) {
            System.out.println(text(name, a) + " threw " + e.getCause());
            return THREW;
        } catch (IllegalAccessException e) {
            throw new IllegalStateException(name, e);
        }
    }

    private static Object[] boxed(Method method, long[] a) {
        Object[] values = new Object[a.length];
        for (int i = 0; i < a.length; i++) {
            Class<?> type = method.getParameterTypes()[i];
            if (type == long.class) {
                values[i] = a[i];
            } else if (type == boolean.class) {
                values[i] = a[i] == 1;
            } else {
                values[i] = (int) a[i];
            }
        }
        return values;
    }

    static String text(String name, long... a) {
        StringBuilder text = new StringBuilder(name).append('(');
        for (int i = 0; i < a.length; i++) {
            text.append(i == 0 ? "" : ", ").append(a[i]);
        }
        return text.append(')').toString();
    }
}
