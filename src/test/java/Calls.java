import java.lang.reflect.InvocationTargetException;
import java.lang.reflect.Method;

/** Makes calls that are written as text, such as acquire(0, 3, 1, -1.0), and answers as text. */
final class Calls {
    private Calls() {
    }

    /** The call's answer: a number, done for a call without one, or throws. and the exception's name. */
    static String answer(Object target, String call) {
        int open = call.indexOf('(');
        String name = call.substring(0, open).trim();
        String inside = call.substring(open + 1, call.lastIndexOf(')')).trim();
        String[] words = inside.isEmpty() ? new String[0] : inside.split("\\s*,\\s*");
        Method method = methodOf(target, name);
        try {
            Object result = method.invoke(target, arguments(method, words));
            return method.getReturnType() == void.class ? "done" : String.valueOf(result);
        } catch (InvocationTargetException e) {
            return "throws." + e.getCause().getClass().getSimpleName();
        } catch (IllegalAccessException e) {
            throw new AssertionError(e);
        }
    }

    private static Method methodOf(Object target, String name) {
        for (Method method : target.getClass().getDeclaredMethods()) {
            if (method.getName().equals(name)) {
                return method;
            }
        }
        throw new AssertionError("no method " + name);
    }

    private static Object[] arguments(Method method, String[] words) {
        Class<?>[] types = method.getParameterTypes();
        if (types.length != words.length) {
            throw new AssertionError(method.getName() + " takes " + types.length + " arguments");
        }
        Object[] values = new Object[types.length];
        for (int i = 0; i < types.length; i++) {
            values[i] = argument(types[i], words[i]);
        }
        return values;
    }

    private static Object argument(Class<?> type, String word) {
        if (type == int.class) {
            return Integer.valueOf(word);
        }
        if (type == double.class) {
            return Double.valueOf(word);
        }
        return Boolean.valueOf(word);
    }
}
