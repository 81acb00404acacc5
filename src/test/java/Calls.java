import java.lang.reflect.InvocationTargetException;
import java.lang.reflect.Method;
import java.util.HashMap;
import java.util.Map;

/** Makes a call that is told by a text, such as "put(5, 2)", and tells what came of it. */
final class Calls {
    private static final Map<String, Method> METHODS = new HashMap<>();

    private Calls() {
    }

    /** The answer, or "throws." and the exception's name. */
    static String answer(Object target, String call) {
        String name = call.substring(0, call.indexOf('('));
        String inside = call.substring(call.indexOf('(') + 1, call.indexOf(')'));
        String[] words = inside.isEmpty() ? new String[0] : inside.split(", ");
        try {
            Class<?> type = target.getClass();
            Method method = METHODS.computeIfAbsent(type.getName() + "." + name, key -> methodOf(type, name, words.length));
            return "" + method.invoke(target, arguments(method, words));
        } catch (InvocationTargetException e) {
            return "throws." + e.getCause().getClass().getSimpleName();
        } catch (IllegalAccessException e) {
            throw new AssertionError(e);
        }
    }

    private static Method methodOf(Class<?> type, String name, int many) {
        for (Method method : type.getDeclaredMethods()) {
            if (method.getName().equals(name) && method.getParameterCount() == many) {
                return method;
            }
        }
        throw new AssertionError("no such call: " + name);
    }

    private static Object[] arguments(Method method, String[] words) {
        Object[] arguments = new Object[words.length];
        for (int i = 0; i < words.length; i++) {
            Class<?> type = method.getParameterTypes()[i];
            if (type == boolean.class) {
                arguments[i] = Boolean.valueOf(words[i]);
            } else if (type == int.class) {
                arguments[i] = Integer.decode(words[i]);
            } else {
                arguments[i] = Long.decode(words[i]);
            }
        }
        return arguments;
    }
}
