import java.lang.reflect.InvocationTargetException;
import java.lang.reflect.Method;

/** Makes a call that is written as text, such as nameStorm(0, 'R'), and tells its answer as text. */
final class Play {
    private Play() {
    }

    /** The answer, a sign between two ', and what a refused call throws as: throws and the name of its class. */
    static String call(Bandworld world, String call) {
        int open = call.indexOf('(');
        if (open < 0 || !call.endsWith(")")) {
            return "no call";
        }
        String inside = call.substring(open + 1, call.length() - 1).trim();
        String[] words = inside.isEmpty() ? new String[0] : inside.split(",");
        Method method = methodOf(call.substring(0, open), words.length);
        if (method == null) {
            return "no such call";
        }
        Object[] arguments = new Object[words.length];
        for (int i = 0; i < words.length; i++) {
            arguments[i] = read(words[i].trim(), method.getParameterTypes()[i]);
        }
        return answer(world, method, arguments);
    }

    static Method methodOf(String name, int parameters) {
        for (Method method : Bandworld.class.getDeclaredMethods()) {
            boolean isCall = java.lang.reflect.Modifier.isPublic(method.getModifiers());
            if (isCall && method.getName().equals(name) && method.getParameterCount() == parameters) {
                return method;
            }
        }
        return null;
    }

    private static Object read(String word, Class<?> type) {
        if (type == boolean.class) {
            return Boolean.valueOf(word);
        }
        if (type == char.class) {
            return word.charAt(1);
        }
        return Integer.valueOf(word);
    }

    private static String answer(Bandworld world, Method method, Object[] arguments) {
        try {
            Object got = method.invoke(world, arguments);
            return got instanceof Character ? "'" + got + "'" : String.valueOf(got);
        } catch (InvocationTargetException e) {
            return "throws " + e.getCause().getClass().getSimpleName();
        } catch (ReflectiveOperationException e) {
            return "can't be called: " + e;
        }
    }
}
