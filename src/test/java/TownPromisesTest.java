/** Promises 6 to 17. */
public final class TownPromisesTest {
    /** 0 firm, 1 a sneezer, 2 tall, 3 windy, 4 a brim; its STEPS are worked out by hand below. */
    private static final String FIVE = "h2;f2,1;s1,2;t1,3;w1,0;b1,4;o2;o1;";
    private static final String SIX_HEADS = "h0;f1,0;s1,0;t1,0;w1,0;b1,0;f1,0;";
    private static final Check check = new Check();

    public static void main(String[] args) {
        feed();
        townRead();
        townFaults();
        townStandsInPlace();
        fault();
        stepsByHand();
        stepsOfTallOnes();
        stepsOfTheWind();
        stepsRefused();
        wind();
        give();
        order();
        back();
        undoOfEach();
        undoForgetsTheOldest();
        head();
        orderHas();
        hat();
        check.finish("TownPromisesTest");
    }

    private static void feed() {
        check.promise("promise 6, feed");
        HatOrders x = new HatOrders();
        check.due("feed(-1)", x.feed(-1), Check.BAD);
        check.due("feed(256)", x.feed(256), Check.BAD);
        check.due("count(7)", x.count(7), 0);
        check.due("feed(0)", x.feed(0), 1);
        check.due("feed(255)", x.feed(255), 2);
        for (int n = 3; n <= 120; n++) {
            check.due("feed(59)", x.feed(59), n);
        }
        check.due("feed(59) of 121", x.feed(59), Check.FULL);
        check.due("feed(256) of 121", x.feed(256), Check.BAD);
        check.due("count(7)", x.count(7), 120);
        check.due("town()", x.town(), Check.FAULT);
        check.due("feed(104) behind it", x.feed(104), 1);
    }

    private static void townRead() {
        check.promise("promise 7, town");
        dueTown("h0;f1,0;", 1);
        dueTown("h5;f9,15;", 1);
        dueTown("h05;f09,00;o01;", 1);
        dueTown("h0;b1,0;o40;", 1);
        dueTown(SIX_HEADS, 6);
        dueTown(SIX_HEADS + "o1;o2;o3;o4;", 6);
        dueTown(FIVE, 5);
        HatOrders x = Check.townOf("h4;f2,7;b9,15;o40;o3;");
        int[][] heads = {{2, 7, 1, 0}, {9, 15, 0, 0}};
        int[][] orders = {{40, 40, 0}, {3, 3, 0}};
        for (int h = 0; h < 2; h++) {
            for (int what = 0; what < 4; what++) {
                check.due("head(" + h + ", " + what + ")", x.head(h, what), heads[h][what]);
            }
            for (int what = 0; what < 3; what++) {
                check.due("orderHas(" + h + ", " + what + ")", x.orderHas(h, what), orders[h][what]);
            }
        }
        check.due("hat(2)", x.hat(2), 4);
        check.due("count(1)", x.count(1), 2);
        check.due("count(2)", x.count(2), 2);
        check.due("count(7)", x.count(7), 0);
    }

    private static void dueTown(String text, int heads) {
        HatOrders x = new HatOrders();
        Check.feed(x, text);
        check.due("town() of " + text, x.town(), heads);
        check.due("fault() of " + text, x.fault(), 0);
        check.due("count(7) of " + text, x.count(7), 0);
    }

    private static void townFaults() {
        check.promise("promises 7 and 8, faults");
        dueFault("", 0, 1);
        dueFault("h", 1, 1);
        dueFault("H0;", 0, 1);
        dueFault(" h0;", 0, 1);
        dueFault("0;", 0, 1);
        dueFault("f1,0;", 0, 1);
        dueFault("hh", 1, 1);
        dueFault("h;", 1, 1);
        dueFault("h6;", 1, 2);
        dueFault("h9", 1, 2);
        dueFault("h10;", 1, 2);
        dueFault("h000;", 1, 1);
        dueFault("h9999;", 1, 1);
        dueFault("h0", 2, 1);
        dueFault("h00", 3, 1);
        dueFault("h0,", 2, 1);
        dueFault("h0 ;", 2, 1);
        dueFault("h0f", 2, 1);
        dueFault("h0;", 3, 1);
        dueFault("h0;;", 3, 1);
        dueFault("h0;1", 3, 1);
        dueFault("h0;111", 3, 1);
        dueFault("h0;h", 3, 1);
        dueFault("h0;o1;", 3, 1);
        dueFault("h0;F1,0;", 3, 1);
        dueFault("h0;a1,0;", 3, 1);
        dueFault("h0;z1,0;", 3, 1);
        dueFault("h0;f", 4, 1);
        dueFault("h0;f,", 4, 1);
        dueFault("h0;f0,0;", 4, 2);
        dueFault("h0;f10,0;", 4, 2);
        dueFault("h0;f100,0;", 4, 1);
        dueFault("h0;f1", 5, 1);
        dueFault("h0;f1;", 5, 1);
        dueFault("h0;f1,", 6, 1);
        dueFault("h0;f1,;", 6, 1);
        dueFault("h0;f1,16;", 6, 2);
        dueFault("h0;f1,99", 6, 2);
        dueFault("h0;f1,015;", 6, 1);
        dueFault("h0;f1,0", 7, 1);
        dueFault("h0;f1,0,", 7, 1);
        dueFault("h0;f1,0;;", 8, 1);
        dueFault("h0;f1,0;q", 8, 1);
        dueFault("h0;f1,0;h0;", 8, 1);
        dueFault("h0;f1,0;o", 9, 1);
        dueFault("h0;f1,0;o0;", 9, 2);
        dueFault("h0;f1,0;o41;", 9, 2);
        dueFault("h0;f1,0;o400;", 9, 1);
        dueFault("h0;f1,0;o1", 10, 1);
        dueFault("h0;f1,0;o1,", 10, 1);
        dueFault("h0;f1,0;o1;f1,0;", 11, 1);
        dueFault("h0;f1,0;o1; ", 11, 1);
        dueFault(SIX_HEADS + "f1,0;", 33, 3);
        dueFault(SIX_HEADS + "b", 33, 3);
        dueFault(SIX_HEADS + "x", 33, 1);
        dueFault(SIX_HEADS + "o1;f1,0;", 36, 1);
        dueFault("h0;f1,0;o1;o1;o1;o1;o1;", 20, 3);
        dueFault("h0;f1,0;o1;o1;o1;o1;o", 20, 3);
        dueFault("h0;f1,0;o1;o1;o1;o1;h", 20, 1);
        dueFault("h0;f1,0;o1;o1;o1;o1;1", 20, 1);
        dueFault("h0;" + (char) 0, 3, 1);
        dueFault("h0;" + (char) 255, 3, 1);
        dueFault("h0;" + (char) 230, 3, 1);
    }

    private static void dueFault(String text, int place, int number) {
        HatOrders x = Check.townOf(FIVE);
        x.steps(3);
        String before = Check.face(x);
        Check.feed(x, text);
        check.due("town() of '" + text + "'", x.town(), Check.FAULT - place);
        check.due("fault() of '" + text + "'", x.fault(), number);
        check.due("count(7) behind '" + text + "'", x.count(7), 0);
        check.due("all stays behind '" + text + "'", Check.face(x).equals(before));
        check.due("ACTS stay behind '" + text + "'", x.count(6), 3);
    }

    private static void townStandsInPlace() {
        check.promise("promise 7, a town in place of another");
        HatOrders x = Check.townOf(FIVE);
        x.steps(9);
        x.order(7);
        x.wind(0);
        String fresh = Check.face(Check.townOf(FIVE));
        Check.feed(x, FIVE);
        check.due("town()", x.town(), 5);
        check.due("all is as at first", Check.face(x).equals(fresh));
        check.due("undo()", x.undo(), Check.STATE);
        Check.feed(x, "h1;t3,1;");
        check.due("town()", x.town(), 1);
        check.due("count(2)", x.count(2), 0);
        check.due("head(1, 0)", x.head(1, 0), Check.BAD);
        check.due("orderHas(0, 0)", x.orderHas(0, 0), Check.BAD);
    }

    private static void fault() {
        check.promise("promise 8, fault");
        HatOrders x = new HatOrders();
        check.due("fault()", x.fault(), 0);
        Check.feed(x, "h6;");
        x.town();
        check.due("fault() of a number", x.fault(), 2);
        Check.feed(x, "h5;f1,0;");
        x.town();
        check.due("fault() behind a town", x.fault(), 2);
        x.town();
        check.due("fault() of none", x.fault(), 1);
    }

    /** Rows: who has it, for how long, LEFT of 0 and 1, done by 0 and 1. */
    private static void stepsByHand() {
        check.promise("promise 9, steps");
        int[][] behind = {
            {0, 1, 1, 1, 1, 0}, {1, 0, 0, 1, 2, 0}, {3, 0, 0, 0, 2, 1}, {0, 0, 0, 0, 2, 1},
            {0, 1, 0, 0, 2, 1}, {1, 0, 0, 0, 2, 1}, {3, 0, 0, 0, 2, 1}, {0, 0, 0, 0, 2, 1},
        };
        HatOrders x = Check.townOf(FIVE);
        for (int n = 0; n < behind.length; n++) {
            String at = " on step " + (n + 1);
            check.due("steps(1)" + at, x.steps(1), behind[n][0]);
            check.due("hat(0)" + at, x.hat(0), behind[n][0]);
            check.due("hat(1)" + at, x.hat(1), behind[n][1]);
            check.due("hat(3)" + at, x.hat(3), n + 1);
            check.due("orderHas(0, 1)" + at, x.orderHas(0, 1), behind[n][2]);
            check.due("orderHas(1, 1)" + at, x.orderHas(1, 1), behind[n][3]);
            check.due("orderHas(0, 2)" + at, x.orderHas(0, 2), behind[n][2] == 0 ? 1 : 0);
            check.due("orderHas(1, 2)" + at, x.orderHas(1, 2), behind[n][3] == 0 ? 1 : 0);
            check.due("head(0, 3)" + at, x.head(0, 3), behind[n][4]);
            check.due("head(1, 3)" + at, x.head(1, 3), behind[n][5]);
            check.due("count(6)" + at, x.count(6), n + 1);
        }
        HatOrders y = Check.townOf(FIVE);
        check.due("steps(8)", y.steps(8), 0);
        check.due("as one by one", Check.face(y).equals(Check.face(x)));
        check.due("count(6)", y.count(6), 8);
    }

    /** A tall one waits for the ORDERS that are out, as they are behind its own work. */
    private static void stepsOfTallOnes() {
        HatOrders x = Check.townOf(FIVE);
        x.give(2);
        check.due("steps(1) of a tall one", x.steps(1), 2);
        check.due("hat(1) of a tall one", x.hat(1), 1);
        check.due("steps(1), order 0 is done", x.steps(1), 3);
        check.due("orderHas(0, 2)", x.orderHas(0, 2), 1);
        check.due("head(2, 3)", x.head(2, 3), 2);
        HatOrders y = Check.townOf("h0;t1,0;f1,0;o1;o1;o1;");
        check.due("steps(3), three out", y.steps(3), 0);
        check.due("hat(1)", y.hat(1), 3);
        y.back(0);
        y.back(1);
        check.due("steps(1), one out", y.steps(1), 1);
        HatOrders z = Check.townOf("h0;f1,2;f1,1;o1;o1;");
        z.steps(1);
        check.due("a firm one does not wait", z.hat(0), 1);
        check.due("it did what it likes", z.orderHas(1, 2), 1);
        check.due("it left the other", z.orderHas(0, 1), 1);
    }

    private static void stepsOfTheWind() {
        HatOrders x = Check.townOf(FIVE);
        x.give(4);
        check.due("steps(1) of a brim", x.steps(1), 2);
        x.wind(5);
        x.give(4);
        check.due("steps(1) of a brim, all round", x.steps(1), 4);
        check.due("hat(1), all round", x.hat(1), 0);
        x.wind(0);
        x.give(3);
        check.due("steps(2) of a windy one, no wind", x.steps(2), 3);
        check.due("hat(1), no wind", x.hat(1), 0);
        x.wind(4);
        check.due("steps(1) of a windy one", x.steps(1), 2);
        HatOrders y = Check.townOf("h5;b2,0;s1,0;");
        check.due("steps(1) of a brim of two", y.steps(1), 0);
        check.due("steps(1) of a brim of two", y.steps(1), 1);
        check.due("steps(1) of a sneezer of two", y.steps(1), 1);
        check.due("hat(1)", y.hat(1), 0);
    }

    private static void stepsRefused() {
        HatOrders none = new HatOrders();
        check.due("steps(0), no town", none.steps(0), Check.STATE);
        HatOrders x = Check.townOf("h0;f1,0;f1,0;");
        check.due("steps(0)", x.steps(0), Check.BAD);
        check.due("steps(-1)", x.steps(-1), Check.BAD);
        check.due("steps(21)", x.steps(21), Check.BAD);
        check.due("steps(MAX)", x.steps(Integer.MAX_VALUE), Check.BAD);
        check.due("hat(3)", x.hat(3), 0);
        for (int n = 0; n < 49; n++) {
            x.steps(20);
        }
        check.due("steps(20) beyond", x.steps(20), Check.FULL);
        check.due("hat(3)", x.hat(3), 980);
        check.due("steps(19)", x.steps(19), 1);
        check.due("steps(1) beyond", x.steps(1), Check.FULL);
        check.due("steps(0) at the end", x.steps(0), Check.BAD);
        check.due("who(1) is told yet", x.who(1), 0);
        x.undo();
        check.due("steps(1) behind undo", x.steps(1), 1);
        check.due("hat(3)", x.hat(3), 999);
    }

    private static void wind() {
        check.promise("promise 10, wind");
        check.due("wind(9), no town", new HatOrders().wind(9), Check.STATE);
        HatOrders x = Check.townOf(FIVE);
        check.due("wind(-1)", x.wind(-1), Check.BAD);
        check.due("wind(6)", x.wind(6), Check.BAD);
        check.due("count(6)", x.count(6), 0);
        check.due("wind(5)", x.wind(5), 2);
        check.due("wind(0)", x.wind(0), 5);
        check.due("hat(2)", x.hat(2), 0);
        check.due("count(6)", x.count(6), 2);
        check.due("hat(3)", x.hat(3), 0);
    }

    private static void give() {
        check.promise("promise 11, give");
        check.due("give(0), no town", new HatOrders().give(0), Check.BAD);
        HatOrders x = Check.townOf(FIVE);
        check.due("give(-1)", x.give(-1), Check.BAD);
        check.due("give(5)", x.give(5), Check.BAD);
        check.due("count(6)", x.count(6), 0);
        x.steps(1);
        check.due("give(0)", x.give(0), 0);
        check.due("hat(1)", x.hat(1), 0);
        check.due("give(4)", x.give(4), 0);
        check.due("hat(0)", x.hat(0), 4);
        check.due("count(6)", x.count(6), 3);
        check.due("hat(3)", x.hat(3), 1);
    }

    private static void order() {
        check.promise("promise 12, order");
        check.due("order(0), no town", new HatOrders().order(0), Check.STATE);
        HatOrders x = Check.townOf(FIVE);
        check.due("order(0)", x.order(0), Check.BAD);
        check.due("order(41)", x.order(41), Check.BAD);
        check.due("order(40)", x.order(40), 2);
        check.due("orderHas(2, 0)", x.orderHas(2, 0), 40);
        check.due("orderHas(2, 1)", x.orderHas(2, 1), 40);
        check.due("orderHas(2, 2)", x.orderHas(2, 2), 0);
        check.due("order(1)", x.order(1), 3);
        check.due("order(1) of five", x.order(1), Check.FULL);
        check.due("order(0) of five", x.order(0), Check.BAD);
        check.due("count(2)", x.count(2), 4);
        check.due("count(6)", x.count(6), 2);
        x.back(0);
        check.due("order(1), one is back", x.order(1), Check.FULL);
        x.give(4);
        x.steps(1);
        check.due("who likes it does it", x.orderHas(2, 1), 39);
    }

    private static void back() {
        check.promise("promise 13, back");
        check.due("back(0), no town", new HatOrders().back(0), Check.BAD);
        HatOrders x = Check.townOf(FIVE);
        check.due("back(-1)", x.back(-1), Check.BAD);
        check.due("back(2)", x.back(2), Check.BAD);
        x.steps(1);
        check.due("back(0)", x.back(0), 1);
        check.due("orderHas(0, 2)", x.orderHas(0, 2), 2);
        check.due("orderHas(0, 1)", x.orderHas(0, 1), 1);
        check.due("count(3)", x.count(3), 1);
        check.due("count(4)", x.count(4), 0);
        check.due("back(0) again", x.back(0), Check.STATE);
        check.due("count(6)", x.count(6), 2);
        x.steps(1);
        check.due("nobody does it", x.orderHas(0, 1), 1);
        check.due("head(0, 3)", x.head(0, 3), 1);
        x.steps(1);
        check.due("back(1), done", x.back(1), Check.STATE);
    }

    private static void undoOfEach() {
        check.promise("promise 14, undo");
        check.due("undo(), no town", new HatOrders().undo(), Check.STATE);
        HatOrders x = Check.townOf(FIVE);
        check.due("undo(), no act", x.undo(), Check.STATE);
        for (int n = 11; n >= 0; n--) {
            HatOrders y = played(12);
            for (int left = 11; left >= n; left--) {
                check.due("undo() of act " + left, y.undo(), left);
            }
            check.due("all is as ahead of act " + n, Check.face(y).equals(Check.face(played(n))));
        }
        x = played(12);
        for (int n = 0; n < 12; n++) {
            x.undo();
        }
        check.due("undo(), all undone", x.undo(), Check.STATE);
        x.steps(5);
        check.due("undo() of the fifth step", x.undo(), 4);
        check.due("hat(3)", x.hat(3), 4);
    }

    private static HatOrders played(int acts) {
        HatOrders x = Check.townOf(FIVE);
        for (int n = 0; n < acts; n++) {
            act(x, n);
        }
        return x;
    }

    private static void act(HatOrders x, int n) {
        switch (n) {
            case 2: x.order(7); break;
            case 4: x.wind(5); break;
            case 6: x.give(2); break;
            case 8: x.back(2); break;
            case 9: x.give(2); break;
            case 10: x.order(3); break;
            default: x.steps(1); break;
        }
    }

    private static void undoForgetsTheOldest() {
        HatOrders x = Check.townOf("h0;f9,0;f9,0;f9,0;");
        for (int n = 1; n <= 24; n++) {
            x.give(n % 3);
        }
        check.due("count(6) of 24", x.count(6), 24);
        x.wind(3);
        x.steps(5);
        check.due("count(6) of 30", x.count(6), 24);
        for (int n = 23; n >= 0; n--) {
            check.due("undo()", x.undo(), n);
        }
        check.due("undo() of the forgotten", x.undo(), Check.STATE);
        check.due("hat(0) behind six gifts", x.hat(0), 0);
        check.due("hat(2)", x.hat(2), 0);
        check.due("hat(3)", x.hat(3), 0);
        x.give(1);
        check.due("undo()", x.undo(), 0);
    }

    private static void head() {
        check.promise("promise 15, head");
        check.due("head(0, 0), no town", new HatOrders().head(0, 0), Check.BAD);
        HatOrders x = Check.townOf(FIVE);
        int[] keeps = {2, 1, 1, 1, 1};
        int[] likes = {1, 2, 3, 0, 4};
        for (int h = 0; h < 5; h++) {
            check.due("head(" + h + ", 0)", x.head(h, 0), keeps[h]);
            check.due("head(" + h + ", 1)", x.head(h, 1), likes[h]);
            check.due("head(" + h + ", 2)", x.head(h, 2), h == 0 ? 1 : 0);
        }
        x.steps(2);
        check.due("head(0, 2)", x.head(0, 2), 0);
        check.due("head(1, 2)", x.head(1, 2), 1);
        check.due("head(0, 3)", x.head(0, 3), 2);
        check.due("head(1, 3)", x.head(1, 3), 0);
        check.due("head(-1, 0)", x.head(-1, 0), Check.BAD);
        check.due("head(5, 0)", x.head(5, 0), Check.BAD);
        check.due("head(0, -1)", x.head(0, -1), Check.BAD);
        check.due("head(0, 4)", x.head(0, 4), Check.BAD);
    }

    private static void orderHas() {
        check.promise("promise 16, orderHas");
        HatOrders x = Check.townOf(FIVE);
        x.steps(2);
        x.back(1);
        int[][] has = {{2, 0, 1}, {1, 1, 2}};
        for (int o = 0; o < 2; o++) {
            for (int what = 0; what < 3; what++) {
                check.due("orderHas(" + o + ", " + what + ")", x.orderHas(o, what), has[o][what]);
            }
        }
        check.due("orderHas(-1, 0)", x.orderHas(-1, 0), Check.BAD);
        check.due("orderHas(2, 0)", x.orderHas(2, 0), Check.BAD);
        check.due("orderHas(0, -1)", x.orderHas(0, -1), Check.BAD);
        check.due("orderHas(0, 3)", x.orderHas(0, 3), Check.BAD);
    }

    private static void hat() {
        check.promise("promise 17, hat");
        check.due("hat(4), no town", new HatOrders().hat(4), Check.STATE);
        HatOrders x = Check.townOf(FIVE);
        x.steps(5);
        int[] has = {0, 1, 2, 5};
        for (int what = 0; what < 4; what++) {
            check.due("hat(" + what + ")", x.hat(what), has[what]);
        }
        check.due("hat(-1)", x.hat(-1), Check.BAD);
        check.due("hat(4)", x.hat(4), Check.BAD);
    }
}
