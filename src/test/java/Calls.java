import java.lang.reflect.InvocationTargetException;
import java.lang.reflect.Method;
import java.util.Arrays;
import java.util.HashMap;
import java.util.Map;

/** Calls written as texts, so that the same ones can be made on a workbench and on its model. */
final class Calls {
    private static final String TYPE = "type ";
    private static final String TAKES_CHARACTER = "append";
    private static final Map<String, Method> FOUND = new HashMap<>();

    private Calls() {
    }

    /** Makes calls such as "addTask 5 10 10 0"; "type " stands for the append of each character behind it. */
    static void make(Object target, String... calls) {
        for (String call : calls) {
            if (call.startsWith(TYPE)) {
                call.substring(TYPE.length()).chars().forEach(code -> answer(target, "append", code));
            } else {
                answer(target, call);
            }
        }
    }

    static Object answer(Object target, String call) {
        String[] words = call.split(" ");
        Integer[] numbers = new Integer[words.length - 1];
        for (int k = 0; k < numbers.length; k++) {
            numbers[k] = Integer.valueOf(words[k + 1]);
        }
        return answer(target, words[0], numbers);
    }

    /** The answer of a call, or the name of the exception that it throws. */
    static Object answer(Object target, String name, Integer... numbers) {
        Object[] values = numbers;
        if (name.equals(TAKES_CHARACTER)) {
            values = new Object[] {(char) numbers[0].intValue()};
        }
        try {
            return method(target.getClass(), name, numbers.length).invoke(target, values);
        } catch (InvocationTargetException e) {
            return e.getCause().getClass().getSimpleName();
        } catch (ReflectiveOperationException e) {
            throw new AssertionError(e);
        }
    }

    private static Method method(Class<?> type, String name, int count) throws NoSuchMethodException {
        String key = type.getName() + "." + name;
        Method method = FOUND.get(key);
        if (method == null) {
            Class<?>[] types = new Class<?>[count];
            Arrays.fill(types, name.equals(TAKES_CHARACTER) ? char.class : int.class);
            method = type.getDeclaredMethod(name, types);
            FOUND.put(key, method);
        }
        return method;
    }
}
