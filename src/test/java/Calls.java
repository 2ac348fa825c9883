import java.lang.reflect.InvocationTargetException;
import java.lang.reflect.Method;

/** Calls by their names, for tests that hold many of them in a table. */
final class Calls {
    private Calls() {
    }

    static Method method(Class<?> type, String name) {
        for (Method m : type.getMethods()) {
            if (m.getName().equals(name) && m.getDeclaringClass() == type) {
                return m;
            }
        }
        throw new IllegalStateException("no method " + name);
    }

    /** What the call answers; what it throws, this throws as an IllegalStateException. */
    static long answer(Object it, String name, int... in) {
        Object[] boxed = new Object[in.length];
        for (int i = 0; i < in.length; i++) {
            boxed[i] = in[i];
        }
        try {
            return ((Number) method(it.getClass(), name).invoke(it, boxed)).longValue();
        } catch (InvocationTargetException e) {
            throw new IllegalStateException(told(name, in) + " threw " + e.getCause(), e);
        } catch (IllegalAccessException e) {
            throw new IllegalStateException(told(name, in) + " is not public", e);
        }
    }

    static String told(String name, int... in) {
        StringBuilder told = new StringBuilder(name).append('(');
        for (int i = 0; i < in.length; i++) {
            told.append(i == 0 ? "" : ", ").append(in[i]);
        }
        return told.append(')').toString();
    }
}
