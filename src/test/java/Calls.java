import java.lang.reflect.InvocationTargetException;
import java.lang.reflect.Method;
import java.util.Arrays;
import java.util.Comparator;
import java.util.HashMap;
import java.util.Map;

/** Calls told in words, as "row 8 0 1": tables of calls can be written down and made again and again. */
final class Calls {
    private static final Map<String, Method> FACE = face();

    private Calls() {
    }

    private static Map<String, Method> face() {
        Map<String, Method> found = new HashMap<>();
        for (Method method : HatOrders.class.getMethods()) {
            if (method.getDeclaringClass() == HatOrders.class) {
                found.put(method.getName(), method);
            }
        }
        return found;
    }

    /** In the order of their names, so that a run drawn by numbers is the same each time. */
    static Method[] all() {
        Method[] methods = FACE.values().toArray(new Method[0]);
        Arrays.sort(methods, Comparator.comparing(Method::getName));
        return methods;
    }

    static int make(HatOrders x, String told) {
        String[] words = told.split(" ");
        Object[] arguments = new Object[words.length - 1];
        for (int i = 0; i < arguments.length; i++) {
            arguments[i] = number(words[i + 1]);
        }
        try {
            return (Integer) FACE.get(words[0]).invoke(x, arguments);
        } catch (InvocationTargetException thrown) {
            throw new IllegalStateException(told + " threw " + thrown.getCause(), thrown.getCause());
        } catch (ReflectiveOperationException wrong) {
            throw new IllegalArgumentException(told, wrong);
        }
    }

    private static int number(String word) {
        switch (word) {
            case "MAX": return Integer.MAX_VALUE;
            case "MIN": return Integer.MIN_VALUE;
            default: return Integer.parseInt(word);
        }
    }

    static int answer(String word) {
        switch (word) {
            case "NONE": return Check.NONE;
            case "BAD": return Check.BAD;
            case "STATE": return Check.STATE;
            case "FULL": return Check.FULL;
            case "NULL": return Check.NULL;
            case "PLACE": return Check.PLACE;
            case "KIND": return Check.KIND;
            case "SIZE": return Check.SIZE;
            case "STORE": return Check.STORE;
            default: return Integer.parseInt(word);
        }
    }

    /** The number that status() tells of an answer, 0 if that is no FINDING. */
    static int findingOf(int answer) {
        int number = -1000010 - answer;
        return number >= 1 && number <= 5 ? number : 0;
    }
}
