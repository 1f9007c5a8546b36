/** Promises 1 to 5, and 37 as far as ROWS go. */
public final class RowPromisesTest {
    private static final int MAX = Integer.MAX_VALUE, MIN = Integer.MIN_VALUE;
    private static final Check check = new Check();

    public static void main(String[] args) {
        newObject();
        row();
        rowStandsInPlace();
        set();
        copy();
        copyFindings();
        drop();
        status();
        check.finish("RowPromisesTest");
    }

    private static void newObject() {
        check.promise("promise 1, a new object");
        HatOrders x = new HatOrders();
        for (int what = 0; what <= 7; what++) {
            check.due("count(" + what + ")", x.count(what), 0);
        }
        check.due("fault()", x.fault(), 0);
        check.due("status()", x.status(), 0);
        check.due("trace(0)", x.trace(0), Check.NONE);
        check.due("hat(0)", x.hat(0), Check.STATE);
        check.due("head(0, 0)", x.head(0, 0), Check.BAD);
        check.due("orderHas(0, 0)", x.orderHas(0, 0), Check.BAD);
        check.due("undo()", x.undo(), Check.STATE);
        check.due("restore(0)", x.restore(0), Check.STATE);
        check.due("restore(1)", x.restore(1), Check.STATE);
        for (int row = 0; row < 8; row++) {
            check.due("drop(" + row + ")", x.drop(row), Check.NULL);
        }
    }

    private static void row() {
        check.promise("promise 2, row");
        HatOrders x = new HatOrders();
        check.due("row(0, 0, 0)", x.row(0, 0, 0), 0);
        check.due("count(0)", x.count(0), 1);
        check.due("row(7, 2, 40)", x.row(7, 2, 40), 40);
        check.due("count(0)", x.count(0), 2);
        check.due("row(7, 1, 3)", x.row(7, 1, 3), 3);
        check.due("count(0)", x.count(0), 2);
        check.due("set(7, 2, 9)", x.set(7, 2, 9), 9);
        check.due("set(7, 3, 9)", x.set(7, 3, 9), Check.PLACE);
        check.due("row(-1, 0, 1)", x.row(-1, 0, 1), Check.BAD);
        check.due("row(8, 0, 1)", x.row(8, 0, 1), Check.BAD);
        check.due("row(MAX, 0, 1)", x.row(MAX, 0, 1), Check.BAD);
        check.due("row(1, -1, 1)", x.row(1, -1, 1), Check.BAD);
        check.due("row(1, 3, 1)", x.row(1, 3, 1), Check.BAD);
        check.due("row(1, 0, 41)", x.row(1, 0, 41), Check.BAD);
        check.due("row(1, 0, MAX)", x.row(1, 0, MAX), Check.BAD);
        check.due("row(1, 0, -1)", x.row(1, 0, -1), Check.SIZE);
        check.due("row(1, 0, MIN)", x.row(1, 0, MIN), Check.SIZE);
        check.due("row(1, 3, -1)", x.row(1, 3, -1), Check.BAD);
        check.due("row(8, 0, -1)", x.row(8, 0, -1), Check.BAD);
        check.due("count(0)", x.count(0), 2);
    }

    private static void rowStandsInPlace() {
        HatOrders x = Check.reader();
        x.row(3, 0, 2);
        check.dueItems("a new row", x, 3, 0, 0);
        x.set(3, 0, 4);
        x.set(3, 1, 5);
        check.due("row(3, 0, -1)", x.row(3, 0, -1), Check.SIZE);
        check.due("row(3, 5, 1)", x.row(3, 5, 1), Check.BAD);
        check.dueItems("a row refused", x, 3, 4, 5);
        x.row(3, 0, 3);
        check.dueItems("a row in place", x, 3, 0, 0, 0);
        x.set(3, 2, 5);
        x.drop(3);
        x.row(3, 2, 3);
        check.dueItems("a row dropped and made", x, 3, 0, 0, 0);
        check.due("set(3, 0, 70000)", x.set(3, 0, 70000), 70000);
    }

    private static void set() {
        check.promise("promise 3, set");
        HatOrders x = new HatOrders();
        x.row(0, 0, 1);
        x.row(1, 1, 1);
        x.row(2, 2, 40);
        int[][] bytes = {{0, 0}, {127, 127}, {128, -128}, {255, -1}, {256, 0}, {-129, 127}, {MAX, -1}, {MIN, 0}};
        for (int[] pair : bytes) {
            check.due("set(0, 0, " + pair[0] + ")", x.set(0, 0, pair[0]), pair[1]);
        }
        int[][] shorts = {{128, 128}, {32767, 32767}, {32768, -32768}, {65535, -1}, {65536, 0}, {-32769, 32767}};
        for (int[] pair : shorts) {
            check.due("set(1, 0, " + pair[0] + ")", x.set(1, 0, pair[0]), pair[1]);
        }
        for (int v : new int[] {MAX, MIN, 65536, -1}) {
            check.due("set(2, 39, " + v + ")", x.set(2, 39, v), v);
        }
        check.due("set(2, 40, 0)", x.set(2, 40, 0), Check.PLACE);
        check.due("set(2, -1, 0)", x.set(2, -1, 0), Check.PLACE);
        check.due("set(2, MAX, 0)", x.set(2, MAX, 0), Check.PLACE);
        check.due("set(2, MIN, 0)", x.set(2, MIN, 0), Check.PLACE);
        check.due("set(3, 0, 0)", x.set(3, 0, 0), Check.NULL);
        check.due("set(3, -1, 0)", x.set(3, -1, 0), Check.NULL);
        check.due("set(-1, 0, 0)", x.set(-1, 0, 0), Check.BAD);
        check.due("set(8, 0, 0)", x.set(8, 0, 0), Check.BAD);
        HatOrders y = Check.reader();
        Check.fill(y, 0, 0, 1, 2, 3);
        y.set(0, 1, 5);
        check.dueItems("set(0, 1, 5)", y, 0, 1, 5, 3);
    }

    private static void copy() {
        check.promise("promise 4, copy");
        HatOrders x = Check.reader();
        Check.fill(x, 0, 0, 1, 2, 3, 4);
        Check.fill(x, 1, 0, 0, 0);
        check.due("copy(0, 1, 1, 0, 2)", x.copy(0, 1, 1, 0, 2), 2);
        check.dueItems("copy to another", x, 1, 2, 3);
        check.dueItems("copy from", x, 0, 1, 2, 3, 4);
        check.due("copy(0, 0, 0, 1, 3)", x.copy(0, 0, 0, 1, 3), 3);
        check.dueItems("copy up over itself", x, 0, 1, 1, 2, 3);
        Check.fill(x, 0, 0, 1, 2, 3, 4);
        check.due("copy(0, 1, 0, 0, 3)", x.copy(0, 1, 0, 0, 3), 3);
        check.dueItems("copy down over itself", x, 0, 2, 3, 4, 4);
        check.due("copy(0, 0, 0, 0, 4)", x.copy(0, 0, 0, 0, 4), 4);
        check.due("copy(0, 4, 1, 2, 0)", x.copy(0, 4, 1, 2, 0), 0);
        check.dueItems("copy of none", x, 1, 2, 3);
    }

    private static void copyFindings() {
        HatOrders x = Check.reader();
        Check.fill(x, 0, 0, 1, 2, 3, 4);
        Check.fill(x, 1, 0, 5, 5);
        Check.fill(x, 2, 1, 5, 5);
        check.due("copy(-1, 0, 0, 0, 0)", x.copy(-1, 0, 0, 0, 0), Check.BAD);
        check.due("copy(0, 0, 8, 0, 0)", x.copy(0, 0, 8, 0, 0), Check.BAD);
        check.due("copy(7, 0, 8, 0, 0)", x.copy(7, 0, 8, 0, 0), Check.BAD);
        check.due("copy(0, 0, 7, 0, 0)", x.copy(0, 0, 7, 0, 0), Check.NULL);
        check.due("copy(7, 0, 0, 0, 0)", x.copy(7, 0, 0, 0, 0), Check.NULL);
        check.due("copy(7, -1, 2, -1, -1)", x.copy(7, -1, 2, -1, -1), Check.NULL);
        check.due("copy(0, -1, 2, -1, -1)", x.copy(0, -1, 2, -1, -1), Check.STORE);
        check.due("copy(0, 0, 2, 0, 0)", x.copy(0, 0, 2, 0, 0), Check.STORE);
        check.due("copy(0, -1, 1, 0, 1)", x.copy(0, -1, 1, 0, 1), Check.PLACE);
        check.due("copy(0, 0, 1, -1, 1)", x.copy(0, 0, 1, -1, 1), Check.PLACE);
        check.due("copy(0, 0, 1, 0, -1)", x.copy(0, 0, 1, 0, -1), Check.PLACE);
        check.due("copy(0, 3, 1, 0, 2)", x.copy(0, 3, 1, 0, 2), Check.PLACE);
        check.due("copy(0, 0, 1, 1, 2)", x.copy(0, 0, 1, 1, 2), Check.PLACE);
        check.due("copy(0, 5, 1, 0, 0)", x.copy(0, 5, 1, 0, 0), Check.PLACE);
        check.due("copy(0, 0, 1, 3, 0)", x.copy(0, 0, 1, 3, 0), Check.PLACE);
        check.due("copy(0, MAX, 1, 0, MAX)", x.copy(0, MAX, 1, 0, MAX), Check.PLACE);
        check.due("copy(0, 0, 1, MAX, 1)", x.copy(0, 0, 1, MAX, 1), Check.PLACE);
        check.due("copy(0, MIN, 1, MIN, MIN)", x.copy(0, MIN, 1, MIN, MIN), Check.PLACE);
        check.dueItems("copies found", x, 0, 1, 2, 3, 4);
        check.dueItems("copies found", x, 1, 5, 5);
    }

    private static void drop() {
        check.promise("promise 5, drop");
        HatOrders x = new HatOrders();
        x.row(0, 0, 0);
        x.row(7, 2, 40);
        check.due("drop(7)", x.drop(7), 40);
        check.due("count(0)", x.count(0), 1);
        check.due("drop(7)", x.drop(7), Check.NULL);
        check.due("set(7, 0, 0)", x.set(7, 0, 0), Check.NULL);
        check.due("drop(0)", x.drop(0), 0);
        check.due("count(0)", x.count(0), 0);
        check.due("drop(-1)", x.drop(-1), Check.BAD);
        check.due("drop(8)", x.drop(8), Check.BAD);
    }

    private static void status() {
        check.promise("promise 37, status of rows");
        HatOrders x = new HatOrders();
        x.row(0, 0, -1);
        check.due("status() of SIZE", x.status(), 4);
        check.due("status() again", x.status(), 4);
        x.row(0, 0, 2);
        check.due("status() of a row", x.status(), 0);
        x.set(0, 2, 0);
        check.due("status() of PLACE", x.status(), 2);
        x.set(8, 0, 0);
        x.row(0, 0, 41);
        x.drop(-1);
        x.copy(0, 0, 8, 0, 0);
        check.due("status() behind BAD", x.status(), 2);
        x.seen(0, 0, 1, 0);
        check.due("status() behind STATE", x.status(), 2);
        x.feed(97);
        x.town();
        x.count(0);
        check.due("status() behind others", x.status(), 2);
        x.set(0, 1, 0);
        check.due("status() of a set", x.status(), 0);
        x.drop(1);
        check.due("status() of NULL", x.status(), 1);
        x.copy(0, 0, 0, 1, 1);
        check.due("status() of a copy", x.status(), 0);
        x.row(1, 1, 2);
        x.copy(0, 0, 1, 0, 1);
        check.due("status() of STORE", x.status(), 5);
        x.drop(0);
        check.due("status() of a drop", x.status(), 0);
    }
}
