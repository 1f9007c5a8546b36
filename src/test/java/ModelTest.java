import java.lang.reflect.InvocationTargetException;
import java.lang.reflect.Method;
import java.util.ArrayList;
import java.util.Arrays;
import java.util.List;

/** Long runs of calls, the same each time, on HatOrders and on HatModel: all answers are alike. */
public final class ModelTest {
    private static final int RUNS = 2500, CALLS = 512;
    /** What an argument is drawn from, beside small numbers: edges of the document and of int. */
    private static final int[] EDGES = {-1, 15, 16, 17, 20, 21, 39, 40, 41, 59, 60, 61, 127, 128, 255, 256,
        Integer.MAX_VALUE, Integer.MIN_VALUE, Integer.MAX_VALUE - 1, 70000, -2};

    private final long seed;
    private final List<String> calls = new ArrayList<>();
    private final HatOrders real = new HatOrders();
    private final HatModel model = new HatModel();
    private long state;

    private ModelTest(long seed) {
        this.seed = seed;
        state = seed * 0x9E3779B97F4A7C15L + 1;
    }

    public static void main(String[] args) throws ReflectiveOperationException {
        Method[] reals = methodsOf(HatOrders.class);
        Method[] models = methodsOf(HatModel.class);
        int wrong = 0;
        for (int run = 0; run < RUNS && wrong < 5; run++) {
            if (!new ModelTest(run).goesAlike(reals, models)) {
                wrong++;
            }
        }
        System.out.println("ModelTest: " + RUNS + " runs of " + CALLS + " calls, " + wrong + " not alike");
        if (wrong != 0) {
            System.exit(1);
        }
    }

    /** Those of the document's face, in the order of their names. */
    private static Method[] methodsOf(Class<?> type) throws ReflectiveOperationException {
        List<Method> found = new ArrayList<>();
        for (Method face : HatOrders.class.getDeclaredMethods()) {
            if (java.lang.reflect.Modifier.isPublic(face.getModifiers())) {
                Method method = type.getDeclaredMethod(face.getName(), face.getParameterTypes());
                method.setAccessible(true);
                found.add(method);
            }
        }
        found.sort((a, b) -> a.getName().compareTo(b.getName()));
        return found.toArray(new Method[0]);
    }

    private boolean goesAlike(Method[] reals, Method[] models) throws ReflectiveOperationException {
        while (calls.size() < CALLS) {
            if (chance(12) && !feedsAlike(reals, models)) {
                return false;
            }
            if (calls.size() == CALLS) {
                break;
            }
            int which = draw(reals.length);
            String name = reals[which].getName();
            if (name.equals("town") || name.equals("feed") && !chance(4) || name.equals("drop") && !chance(3)) {
                continue;
            }
            if (!isAlike(reals[which], models[which], argumentsFor(name, reals[which].getParameterCount()))) {
                return false;
            }
        }
        return true;
    }

    private boolean feedsAlike(Method[] reals, Method[] models) throws ReflectiveOperationException {
        String text = text();
        // No object has more than 512 calls: what it would answer then is free.
        if (calls.size() + text.length() + 2 > CALLS) {
            return true;
        }
        for (int i = 0; i < text.length(); i++) {
            if (!isAlike(named(reals, "feed"), named(models, "feed"), new Object[] {(int) text.charAt(i)})) {
                return false;
            }
        }
        return isAlike(named(reals, "town"), named(models, "town"), new Object[0])
            && isAlike(named(reals, "fault"), named(models, "fault"), new Object[0]);
    }

    private static Method named(Method[] methods, String name) {
        for (Method method : methods) {
            if (method.getName().equals(name)) {
                return method;
            }
        }
        throw new IllegalArgumentException(name);
    }

    private boolean isAlike(Method onReal, Method onModel, Object[] arguments) throws ReflectiveOperationException {
        String call = onReal.getName() + Arrays.toString(arguments);
        calls.add(call);
        Object want = onModel.invoke(model, arguments);
        Object got;
        try {
            got = onReal.invoke(real, arguments);
        } catch (InvocationTargetException thrown) {
            got = thrown.getCause();
        }
        if (!want.equals(got)) {
            System.out.println("run " + seed + ", call " + calls.size() + ": " + call + " answered " + got
                + ", due is " + want + "; behind " + calls.subList(Math.max(0, calls.size() - 60), calls.size() - 1));
            return false;
        }
        return true;
    }

    private Object[] argumentsFor(String name, int many) {
        Object[] arguments = new Object[many];
        for (int i = 0; i < many; i++) {
            arguments[i] = argument(name, i);
        }
        return arguments;
    }

    private int argument(String name, int i) {
        if (chance(25)) {
            return EDGES[draw(EDGES.length)];
        }
        boolean isTime = name.equals("who") || name.equals("ever") || i == 1 && "by winds lot".contains(name);
        if (isTime) {
            return draw(chance(2) ? 12 : 61);
        }
        switch (name + i) {
            case "steps0": return 1 + draw(chance(3) ? 20 : 3);
            case "order0": return 1 + draw(chance(2) ? 6 : 40);
            case "row0": case "set0": case "copy0": case "copy2": case "drop0": case "seen0": case "keeps1":
                return draw(4);
            case "row1": return draw(2);
            case "row2": return draw(chance(3) ? 41 : 20);
            case "set2": return draw(4) - 1;
            case "set1": return draw(20);
            case "seen2": case "keeps3": return 1 + draw(chance(2) ? 4 : 16);
            case "seen3": case "round0": case "lot2": case "ask1": case "image0": case "restore0": return draw(2);
            default: return draw(6);
        }
    }

    private String text() {
        StringBuilder text = new StringBuilder("h" + draw(6) + ";");
        int heads = chance(10) ? 7 : 1 + draw(6);
        for (int i = 0; i < heads; i++) {
            text.append("fstwb".charAt(draw(5))).append(1 + draw(chance(2) ? 2 : 9)).append(',').append(draw(16)).append(';');
        }
        int orders = chance(10) ? 5 : draw(5);
        for (int i = 0; i < orders; i++) {
            text.append('o').append(1 + draw(chance(2) ? 6 : 40)).append(';');
        }
        if (chance(3)) {
            spoil(text);
        }
        return text.toString();
    }

    private void spoil(StringBuilder text) {
        String signs = "hfstwboax0123459,; Z/:{`" + (char) 0 + (char) 255;
        int at = draw(text.length());
        char sign = signs.charAt(draw(signs.length()));
        switch (draw(4)) {
            case 0: text.insert(at, sign); break;
            case 1: text.setCharAt(at, sign); break;
            case 2: text.deleteCharAt(at); break;
            default: text.setLength(at); break;
        }
    }

    private boolean chance(int of) {
        return draw(of) == 0;
    }

    private int draw(int below) {
        state = state * 6364136223846793005L + 1442695040888963407L;
        return (int) ((state >>> 33) % below);
    }
}
