/** Promises 32 to 37. */
public final class AskedPromisesTest {
    private static final String FIVE = "h2;f2,1;s1,2;t1,3;w1,0;b1,4;o2;o1;";
    private static final Check check = new Check();

    public static void main(String[] args) {
        kind();
        as();
        askSize();
        askMark();
        askWhatIsDone();
        askRefused();
        trace();
        count();
        status();
        check.finish("AskedPromisesTest");
    }

    private static void kind() {
        check.promise("promise 32, kind");
        check.due("kind(0), no town", new HatOrders().kind(0), Check.BAD);
        HatOrders x = Check.townOf(FIVE);
        for (int h = 0; h < 5; h++) {
            check.due("kind(" + h + ")", x.kind(h), h + 1);
        }
        check.due("kind(5)", x.kind(5), Check.BAD);
        check.due("kind(-1)", x.kind(-1), Check.BAD);
    }

    private static void as() {
        check.promise("promise 33, as");
        check.due("as(0, 0), no town", new HatOrders().as(0, 0), Check.BAD);
        HatOrders x = Check.townOf(FIVE);
        String[] kinds = {"01", "012", "013", "04", "045"};
        for (int h = 0; h < 5; h++) {
            for (int k = 0; k < 6; k++) {
                boolean isOne = kinds[h].indexOf('0' + k) >= 0;
                check.due("as(" + h + ", " + k + ")", x.as(h, k), isOne ? h : Check.KIND);
                check.due("status() of it", x.status(), isOne ? 0 : 3);
            }
        }
        check.due("as(5, 0)", x.as(5, 0), Check.BAD);
        check.due("as(-1, 0)", x.as(-1, 0), Check.BAD);
        check.due("as(0, 6)", x.as(0, 6), Check.BAD);
        check.due("as(0, -1)", x.as(0, -1), Check.BAD);
    }

    private static void askSize() {
        check.promise("promises 34 and 35, SIZE");
        HatOrders x = Check.townOf(FIVE);
        dueAsk(x, 0, 0, 2, 11, 10, 21, 20);
        dueAsk(x, 1, 0, -3, 12, 11, 10, 24, 21, 20);
        dueAsk(x, 2, 0, -997, 11, 10, 22, 21, 20);
        dueAsk(x, 3, 0, -99, 13, 10);
        dueAsk(x, 4, 0, -198, 14, 13, 10);
    }

    private static void askMark() {
        check.promise("promises 34 and 35, MARK");
        HatOrders x = Check.townOf(FIVE);
        dueAsk(x, 0, 1, 0, 21, 20);
        dueAsk(x, 1, 1, 2, 24, 21, 20);
        dueAsk(x, 2, 1, -998, 22, 21, 20);
        dueAsk(x, 3, 1, 102, 23, 20, 13, 10);
        dueAsk(x, 4, 1, 202, 23, 20, 14, 13, 10);
    }

    private static void dueAsk(HatOrders x, int head, int what, int answer, int... bodies) {
        String call = "ask(" + head + ", " + what + ")";
        check.due(call, x.ask(head, what), answer);
        for (int i = 0; i < bodies.length; i++) {
            check.due("trace(" + i + ") of " + call, x.trace(i), bodies[i]);
        }
        check.due("trace(" + bodies.length + ") of " + call, x.trace(bodies.length), Check.NONE);
    }

    private static void askWhatIsDone() {
        check.promise("promise 34, what is done so far");
        HatOrders x = Check.townOf(FIVE);
        x.steps(3);
        check.due("ask(0, 1)", x.ask(0, 1), 2);
        check.due("ask(0, 0)", x.ask(0, 0), 4);
        check.due("ask(1, 1)", x.ask(1, 1), 4);
        check.due("ask(1, 0)", x.ask(1, 0), -5);
        HatOrders y = Check.townOf(FIVE);
        y.give(2);
        y.steps(2);
        check.due("ask(2, 1)", y.ask(2, 1), -996);
        check.due("ask(2, 0)", y.ask(2, 0), -995);
        HatOrders z = Check.townOf("h0;w1,1;b2,1;o9;");
        z.steps(1);
        check.due("ask(0, 1) of a windy one", z.ask(0, 1), 99);
        check.due("ask(0, 0) of a windy one", z.ask(0, 0), -99);
        check.due("ask(1, 1) of a brim", z.ask(1, 1), 197);
        check.due("ask(1, 0) of a brim", z.ask(1, 0), -196);
    }

    private static void askRefused() {
        check.promise("promise 34, refused");
        check.due("ask(0, 0), no town", new HatOrders().ask(0, 0), Check.BAD);
        HatOrders x = Check.townOf(FIVE);
        check.due("ask(5, 0)", x.ask(5, 0), Check.BAD);
        check.due("ask(-1, 0)", x.ask(-1, 0), Check.BAD);
        check.due("ask(0, 2)", x.ask(0, 2), Check.BAD);
        check.due("ask(0, -1)", x.ask(0, -1), Check.BAD);
        x.ask(3, 0);
        x.ask(0, 2);
        check.due("trace(0) stays", x.trace(0), 13);
    }

    private static void trace() {
        check.promise("promise 35, trace");
        HatOrders x = Check.townOf(FIVE);
        check.due("trace(0), none asked", x.trace(0), Check.NONE);
        x.ask(1, 0);
        check.due("trace(-1)", x.trace(-1), Check.NONE);
        check.due("trace(6)", x.trace(6), Check.NONE);
        check.due("trace(16)", x.trace(16), Check.NONE);
        check.due("trace(MAX)", x.trace(Integer.MAX_VALUE), Check.NONE);
        check.due("trace(MIN)", x.trace(Integer.MIN_VALUE), Check.NONE);
        x.steps(2);
        x.town();
        x.kind(0);
        check.due("trace(0), not asked anew", x.trace(0), 12);
        x.ask(3, 0);
        check.due("trace(1), asked anew", x.trace(1), 10);
        check.due("trace(2), asked anew", x.trace(2), Check.NONE);
    }

    private static void count() {
        check.promise("promise 36, count");
        HatOrders x = Check.townOf(FIVE);
        x.row(4, 0, 0);
        x.row(5, 0, 9);
        x.order(3);
        x.order(4);
        x.steps(2);
        x.back(1);
        x.feed(104);
        int[] counts = {2, 5, 4, 2, 1, 2, 5, 1};
        for (int what = 0; what < 8; what++) {
            check.due("count(" + what + ")", x.count(what), counts[what]);
        }
        check.due("count(8)", x.count(8), Check.BAD);
        check.due("count(-1)", x.count(-1), Check.BAD);
    }

    private static void status() {
        check.promise("promise 37, status");
        HatOrders x = Check.townOf(FIVE);
        check.due("status(), none yet", x.status(), 0);
        x.as(0, 5);
        check.due("status() of KIND", x.status(), 3);
        x.as(0, 6);
        x.as(5, 0);
        x.steps(21);
        x.steps(1);
        x.ask(0, 0);
        check.due("status() stays", x.status(), 3);
        x.as(0, 0);
        check.due("status() of as", x.status(), 0);
        x.as(3, 1);
        x.row(0, 0, 1);
        check.due("status() of row", x.status(), 0);
        x.as(3, 1);
        x.seen(0, 0, 1, 0);
        check.due("status() of seen", x.status(), 0);
        x.as(3, 1);
        x.keeps(0, 0, 0, 1);
        check.due("status() of keeps", x.status(), 0);
        x.as(3, 1);
        x.set(0, 0, 1);
        check.due("status() of set", x.status(), 0);
        x.as(3, 1);
        x.copy(0, 0, 0, 0, 1);
        check.due("status() of copy", x.status(), 0);
        x.as(3, 1);
        x.drop(0);
        check.due("status() of drop", x.status(), 0);
    }
}
