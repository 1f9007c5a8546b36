/** What the tests share: answers compared with those due, texts fed, ROWS filled and looked at. */
final class Check {
    static final int NONE = -1000000, BAD = -1000001, STATE = -1000002, FULL = -1000003;
    static final int NULL = -1000011, PLACE = -1000012, KIND = -1000013, SIZE = -1000014, STORE = -1000015;
    static final int FAULT = -1000100;

    private int answers = 0;
    private int wrong = 0;
    private String promise = "";

    void promise(String name) {
        promise = name;
    }

    void due(String call, long got, long want) {
        answers++;
        if (got != want) {
            wrong++;
            System.out.println(promise + ": " + call + " answered " + got + ", due is " + want);
        }
    }

    void due(String call, boolean holds) {
        due(call, holds ? 1 : 0, 1);
    }

    /** What a call answers by one of its numbers, all else as it is. */
    interface ByNumber {
        int answer(int v);
    }

    /** The last numbers that are as told and the first that are not, on both sides, and the farthest. */
    void dueOnlyBetween(String call, int least, int most, ByNumber byNumber) {
        for (int v = least; v <= most; v++) {
            due(call + " of " + v + " is answered", byNumber.answer(v) > BAD);
        }
        for (int v : new int[] {least - 1, most + 1, Integer.MIN_VALUE, Integer.MAX_VALUE}) {
            due(call + " of " + v, byNumber.answer(v), BAD);
        }
    }

    /** The exit code is what .ci/run goes by. */
    void finish(String test) {
        System.out.println(test + ": " + answers + " answers, " + wrong + " not as due");
        if (wrong != 0) {
            System.exit(1);
        }
    }

    static void feed(HatOrders x, String text) {
        for (int i = 0; i < text.length(); i++) {
            x.feed(text.charAt(i));
        }
    }

    static HatOrders townOf(String text) {
        HatOrders x = new HatOrders();
        feed(x, text);
        int heads = x.town();
        if (heads < 1) {
            throw new IllegalArgumentException("no town: " + text + " " + heads);
        }
        return x;
    }

    static void fill(HatOrders x, int row, int lane, int... items) {
        x.row(row, lane, items.length);
        for (int i = 0; i < items.length; i++) {
            x.set(row, i, items[i]);
        }
    }

    /** Six who keep it long: whoever is told to have it behind a STEP is who it was given to. */
    static HatOrders reader() {
        return townOf("h0;f9,0;f9,0;f9,0;f9,0;f9,0;f9,0;");
    }

    /** An ITEM of reader(), if it is 0 to 5; -1 if it is -1; else -2. */
    static int item(HatOrders x, int row, int i) {
        int many = x.seen(row, i, 1, 0);
        return many == 1 ? x.seen(row, i, 1, 1) : many == 6 ? -1 : -2;
    }

    void dueItems(String after, HatOrders x, int row, int... items) {
        for (int i = 0; i < items.length; i++) {
            due(after + ": item " + i + " of row " + row, item(x, row, i), items[i]);
        }
        due(after + ": no item " + items.length, x.seen(row, items.length, 1, 0), PLACE);
    }

    /** All that can be seen of the TOWN without a change. */
    static String face(HatOrders x) {
        StringBuilder all = new StringBuilder();
        for (int what = 0; what < 4; what++) {
            all.append(x.hat(what)).append(' ');
        }
        for (int h = 0; h < x.count(1); h++) {
            for (int what = 0; what < 4; what++) {
                all.append(x.head(h, what)).append(' ');
            }
            all.append(x.kind(h)).append(' ');
        }
        for (int o = 0; o < x.count(2); o++) {
            for (int what = 0; what < 3; what++) {
                all.append(x.orderHas(o, what)).append(' ');
            }
            all.append(x.done(o)).append(' ');
        }
        return all.toString();
    }
}
