import java.lang.reflect.InvocationTargetException;
import java.lang.reflect.Method;
import java.util.Arrays;
import java.util.HashMap;
import java.util.Map;

/** Calls told as texts, such as "set 0 15 -100", made on the class or on the model. */
final class Calls {
    private static final Map<String, Method> METHODS = new HashMap<>();

    private Calls() {
    }

    static long answer(Object on, String call) {
        String[] words = call.split(" ");
        Class<?>[] types = method(on, words[0]).getParameterTypes();
        if (types.length != words.length - 1) {
            throw new IllegalStateException("too few or too many numbers: " + call);
        }
        Object[] values = new Object[types.length];
        for (int i = 0; i < types.length; i++) {
            values[i] = types[i] == long.class ? (Object) Long.parseLong(words[i + 1])
                    : (Object) number(words[i + 1]);
        }
        return answer(on, words[0], values);
    }

    private static int number(String word) {
        return word.equals("lowest") ? Integer.MIN_VALUE
                : word.equals("highest") ? Integer.MAX_VALUE : Integer.parseInt(word);
    }

    static long answer(Object on, String name, Object[] values) {
        try {
            return ((Number) method(on, name).invoke(on, values)).longValue();
        } catch (InvocationTargetException e) {
            throw new IllegalStateException(name + Arrays.toString(values) + " threw", e.getCause());
        } catch (IllegalAccessException e) {
            throw new IllegalStateException(name, e);
        }
    }

    private static Method method(Object on, String name) {
        String key = on.getClass().getName() + "." + name;
        if (!METHODS.containsKey(key)) {
            for (Method method : on.getClass().getDeclaredMethods()) {
                if (method.getName().equals(name)) {
                    METHODS.put(key, method);
                }
            }
        }
        if (METHODS.get(key) == null) {
            throw new IllegalStateException("no method " + key);
        }
        return METHODS.get(key);
    }
}
