import java.lang.reflect.InvocationTargetException;
import java.lang.reflect.Method;
import java.lang.reflect.Modifier;
import java.util.HashMap;
import java.util.Map;

/** Calls by their names, so that a table can tell them, and the class and a model can be asked the same. */
final class Calls {
    private static final Map<Class<?>, Map<String, Method>> KNOWN = new HashMap<>();

    private Calls() {
    }

    /** The answer as a text, or the simple name of the exception; numbers beyond the parameters are not used. */
    static String answer(Object asked, String name, int... numbers) {
        Method call = callsOf(asked.getClass()).get(name);
        Object[] arguments = new Object[call.getParameterCount()];
        for (int i = 0; i < arguments.length; i++) {
            arguments[i] = numbers[i];
        }
        try {
            return "" + call.invoke(asked, arguments);
        } catch (InvocationTargetException e) {
            return e.getCause().getClass().getSimpleName();
        } catch (IllegalAccessException e) {
            return "no such call";
        }
    }

    /** The same, for a call as it is written: "setStation(3, 81, 2)". */
    static String answer(Object asked, String written) {
        int open = written.indexOf('(');
        String[] texts = written.substring(open + 1, written.length() - 1).split(", ");
        int[] numbers = new int[texts.length];
        for (int i = 0; i < texts.length; i++) {
            numbers[i] = texts[i].isEmpty() ? 0 : Integer.parseInt(texts[i]);
        }
        return answer(asked, written.substring(0, open), numbers);
    }

    private static Map<String, Method> callsOf(Class<?> type) {
        return KNOWN.computeIfAbsent(type, Calls::findCalls);
    }

    private static Map<String, Method> findCalls(Class<?> type) {
        Map<String, Method> calls = new HashMap<>();
        for (Method method : type.getDeclaredMethods()) {
            if (!Modifier.isPrivate(method.getModifiers())) {
                calls.put(method.getName(), method);
            }
        }
        return calls;
    }
}
