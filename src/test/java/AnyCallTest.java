import java.lang.reflect.Method;
import java.util.ArrayList;
import java.util.List;

/**
 * Rules 7 and 13 of LANGUAGE.md: no call throws or fails to end, for any numbers in any state; the same calls give
 * the same answers, whatever other objects are asked in between. What is answered, other tests look at.
 */
public final class AnyCallTest {
    private static final int RUNS = 300, CALLS = 512;
    private static final int[] NUMBERS = {Integer.MIN_VALUE, Integer.MIN_VALUE + 1, -1000001, -41, -16, -2, -1, 0, 0, 0, 1, 1,
        1, 2, 2, 3, 4, 5, 6, 7, 8, 9, 15, 16, 17, 20, 24, 39, 40, 41, 60, 61, 119, 120, 255, 256, 65535, 65536, 1 << 30,
        Integer.MAX_VALUE - 60, Integer.MAX_VALUE - 1, Integer.MAX_VALUE};
    private static final String[] TEXTS = {"h5;b9,15;", "h3;f2,1;s1,2;t2,5;w3,0;b1,8;o4;o6;o2;",
        "h0;t9,15;t1,1;b2,2;w1,4;s9,8;f1,0;o1;o40;o1;o40;", "h1;w1,15;b1,15;o1;", "h2;f1,0;o41;", "h", "x"};
    private static final Check check = new Check();

    private long state;

    private AnyCallTest(long seed) {
        state = seed * 0x9E3779B97F4A7C15L + 7;
    }

    public static void main(String[] args) {
        for (int run = 0; run < RUNS; run++) {
            check.promise("run " + run);
            List<String> calls = new AnyCallTest(run).anyCalls();
            List<Integer> alone = answersOf(new HatOrders(), calls);
            check.due("the same calls once more", answersOf(new HatOrders(), calls).equals(alone));
            check.due("the same calls among others", answersAmongOthers(calls, run).equals(alone));
        }
        check.finish("AnyCallTest");
    }

    private List<String> anyCalls() {
        List<String> calls = new ArrayList<>();
        Method[] face = Calls.all();
        while (calls.size() < CALLS) {
            String text = TEXTS[draw(TEXTS.length)];
            if (draw(40) == 0 && calls.size() + text.length() < CALLS) {
                for (char letter : text.toCharArray()) {
                    calls.add("feed " + (int) letter);
                }
                calls.add("town");
                continue;
            }
            calls.add(anyCall(face[draw(face.length)]));
        }
        return calls;
    }

    private String anyCall(Method method) {
        StringBuilder told = new StringBuilder(method.getName());
        for (int i = 0; i < method.getParameterCount(); i++) {
            told.append(' ').append(draw(20) == 0 ? (int) next() : NUMBERS[draw(NUMBERS.length)]);
        }
        return told.toString();
    }

    private static List<Integer> answersOf(HatOrders x, List<String> calls) {
        List<Integer> answers = new ArrayList<>();
        for (String call : calls) {
            answers.add(Calls.make(x, call));
        }
        return answers;
    }

    private static List<Integer> answersAmongOthers(List<String> calls, int run) {
        List<String> others = new AnyCallTest(RUNS + run).anyCalls();
        HatOrders x = new HatOrders();
        HatOrders other = new HatOrders();
        List<Integer> answers = new ArrayList<>();
        for (int i = 0; i < calls.size(); i++) {
            Calls.make(other, others.get(i));
            answers.add(Calls.make(x, calls.get(i)));
        }
        return answers;
    }

    private int draw(int below) {
        return (int) ((next() >>> 1) % below);
    }

    private long next() {
        state = state * 6364136223846793005L + 1442695040888963407L;
        return state >>> 31;
    }
}
