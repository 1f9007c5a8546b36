import java.util.ArrayList;
import java.util.List;

/** STEPS and ACTS, sentence by sentence: round the table, for how long, which ORDER, what is forgotten. */
public final class StepEdgesTest {
    private static final String SORTS = "fstwb";
    private static final int OUT = 0, DONE = 1, BACK = 2;
    private static final Check check = new Check();

    public static void main(String[] args) {
        roundTheTable();
        comesToWhoHadIt();
        keepsOrMore();
        tallOnes();
        tallOnesCountBehindTheirWork();
        longerThanItShould();
        leastOrderThatIsOut();
        untilNoneIsLeft();
        stepsByNumber();
        stepsToTheLast();
        windByNumber();
        windIsAnActEachTime();
        giftsByNumber();
        needsByNumber();
        ordersAreFull();
        backsByNumber();
        actsAreForgotten();
        actsOfAllSorts();
        undoneAndDoneAgain();
        whatsByNumber();
        whoHasTheHat();
        howOrdersAre();
        check.finish("StepEdgesTest");
    }

    private static int walked(int seat, int by, int heads) {
        int at = seat;
        for (int i = 0; i < by; i++) {
            at = at == heads - 1 ? 0 : at + 1;
        }
        for (int i = 0; i > by; i--) {
            at = at == 0 ? heads - 1 : at - 1;
        }
        return at;
    }

    private static String tableOf(int wind, int heads, int seat, char sort) {
        StringBuilder text = new StringBuilder("h" + wind + ";");
        for (int head = 0; head < heads; head++) {
            text.append(head == seat ? sort : 'f').append("1,0;");
        }
        return text.toString();
    }

    private static void roundTheTable() {
        check.promise("'HEADS sit round a table by their numbers, 0 behind the last'; 'it goes: ..'");
        for (int heads = 1; heads <= 6; heads++) {
            for (int seat = 0; seat < heads; seat++) {
                for (int wind = 0; wind <= 5; wind++) {
                    int[] by = {1, 2, 1, wind, -wind};
                    for (int sort = 0; sort < 5; sort++) {
                        String text = tableOf(wind, heads, seat, SORTS.charAt(sort));
                        HatOrders x = Check.townOf(text);
                        x.give(seat);
                        check.due("steps(1) of " + seat + " of " + text, x.steps(1), walked(seat, by[sort], heads));
                        check.due("hat(1) then", x.hat(1), 0);
                    }
                }
            }
        }
    }

    private static void comesToWhoHadIt() {
        check.promise("'Where it comes (also if that is who had it) it has been for 0 STEPS'");
        String[] alone = {"h0;f3,0;", "h0;s3,0;", "h0;t3,0;", "h5;w3,0;", "h5;b3,0;", "h0;w3,0;f1,0;", "h0;b3,0;f1,0;",
            "h2;w3,0;f1,0;", "h4;b3,0;f1,0;", "h3;w3,0;f1,0;f1,0;", "h0;s3,0;f1,0;"};
        for (String text : alone) {
            HatOrders x = Check.townOf(text);
            for (int n = 1; n <= 7; n++) {
                check.due("steps(1), " + n + " of " + text, x.steps(1), 0);
                check.due("hat(1), " + n + " of " + text, x.hat(1), n % 3);
            }
        }
    }

    private static void keepsOrMore() {
        check.promise("'if that is KEEPS or more .. it goes'");
        for (char sort : "fswb".toCharArray()) {
            for (int keeps = 1; keeps <= 9; keeps++) {
                HatOrders x = Check.townOf("h1;" + sort + keeps + ",0;f9,0;f9,0;o1;o1;");
                for (int n = 1; n < keeps; n++) {
                    check.due("steps(1), " + n + " of " + keeps, x.steps(1), 0);
                    check.due("hat(1), " + n + " of " + keeps, x.hat(1), n);
                }
                int to = sort == 's' || sort == 'b' ? 2 : 1;
                check.due("the last of " + keeps, x.steps(1), to);
                check.due("hat(1), the last of " + keeps, x.hat(1), 0);
            }
        }
    }

    private static void tallOnes() {
        check.promise("'of a tall one: KEEPS and how many ORDERS are out'");
        for (int keeps = 1; keeps <= 9; keeps++) {
            for (int out = 0; out <= 4; out++) {
                StringBuilder text = new StringBuilder("h0;t" + keeps + ",0;f9,0;");
                for (int order = 0; order < out; order++) {
                    text.append("o1;");
                }
                HatOrders x = Check.townOf(text.toString());
                check.due("one step less than " + keeps + " and " + out, x.who(keeps + out - 1), 0);
                check.due("as many as " + keeps + " and " + out, x.who(keeps + out), 1);
                check.due("gets(1) of " + keeps + " and " + out, x.gets(1), keeps + out);
            }
        }
    }

    private static void tallOnesCountBehindTheirWork() {
        check.promise("'how many ORDERS are out then': behind what it did, not DONE, not taken BACK");
        check.due("its only order is done on 1", Check.townOf("h0;t1,1;f9,0;o1;").steps(1), 1);
        check.due("its only order is not done", Check.townOf("h0;t1,1;f9,0;o2;").steps(1), 0);
        check.due("its only order is done on 2", Check.townOf("h0;t1,1;f9,0;o2;").steps(2), 1);
        check.due("two orders, one done on 1", Check.townOf("h0;t1,1;f9,0;o1;o1;").steps(1), 0);
        check.due("two orders, both done", Check.townOf("h0;t1,3;f9,0;o1;o1;").steps(2), 1);
        HatOrders x = Check.townOf("h0;t1,0;f9,0;o1;o1;");
        x.back(1);
        check.due("steps(1), one is back", x.steps(1), 0);
        check.due("steps(1), one is back, again", x.steps(1), 1);
        HatOrders y = Check.townOf("h0;t1,0;f9,0;");
        y.order(1);
        check.due("steps(1), one is told", y.steps(1), 0);
        check.due("steps(1), one is told, again", y.steps(1), 1);
    }

    private static void longerThanItShould() {
        check.promise("'KEEPS or more': a tall one that has had it for longer than it should by now");
        HatOrders x = Check.townOf("h0;t1,0;f9,0;o1;o1;o1;o1;");
        x.steps(4);
        check.due("hat(1)", x.hat(1), 4);
        for (int order = 0; order < 4; order++) {
            x.back(order);
        }
        check.due("it does not go before a step", x.hat(0), 0);
        check.due("steps(1)", x.steps(1), 1);
        check.due("hat(1) then", x.hat(1), 0);
    }

    /** HEADS 1 to 4 bring ORDERS 0 to 3 where they should be; then HEAD 0 has a STEP. */
    private static void leastOrderThatIsOut() {
        check.promise("'1 of the least ORDER that is out (given, not DONE) and that it LIKES .. none: nothing'");
        for (int likes = 0; likes <= 15; likes++) {
            for (int states = 0; states < 81; states++) {
                HatOrders x = Check.townOf("h0;f9," + likes + ";f9,1;f9,2;f9,4;f9,8;o2;o2;o2;o2;");
                int[] left = new int[4];
                int least = -1;
                for (int order = 3, rest = states; order >= 0; order--, rest /= 3) {
                    bring(x, order, rest % 3);
                    left[order] = rest % 3 == DONE ? 0 : 2;
                    least = rest % 3 == OUT && (likes & 1 << order) != 0 ? order : least;
                }
                x.give(0);
                x.steps(1);
                for (int order = 0; order < 4; order++) {
                    int due = left[order] - (order == least ? 1 : 0);
                    check.due("LEFT of " + order + " by " + likes + ", " + states, x.orderHas(order, 1), due);
                }
                check.due("done by 0 by " + likes + ", " + states, x.head(0, 3), least < 0 ? 0 : 1);
            }
        }
    }

    private static void bring(HatOrders x, int order, int state) {
        if (state == DONE) {
            x.give(order + 1);
            x.steps(2);
        }
        if (state == BACK) {
            x.back(order);
        }
    }

    private static void untilNoneIsLeft() {
        check.promise("'LEFT is 1 less; 0: DONE'");
        for (int needs : new int[] {1, 2, 39, 40}) {
            HatOrders x = Check.townOf("h0;f9,1;o" + needs + ";");
            for (int n = 1; n <= needs; n++) {
                x.steps(1);
                check.due("LEFT of " + needs + " behind " + n, x.orderHas(0, 1), needs - n);
                check.due("DONE of " + needs + " behind " + n, x.orderHas(0, 2), n == needs ? DONE : OUT);
                check.due("out of " + needs + " behind " + n, x.count(3), n == needs ? 0 : 1);
                check.due("count(4) of " + needs + " behind " + n, x.count(4), n == needs ? 1 : 0);
            }
            x.steps(1);
            check.due("LEFT of " + needs + ", one step more", x.orderHas(0, 1), 0);
            check.due("done by 0, one step more", x.head(0, 3), needs);
            check.due("NEEDS stays", x.orderHas(0, 0), needs);
        }
    }

    private static void stepsByNumber() {
        check.promise("'n STEPS (1 to 20), an ACT each'");
        check.dueOnlyBetween("steps(..)", 1, 20, v -> Check.townOf("h0;f1,0;f1,0;").steps(v));
        for (int n = 1; n <= 20; n++) {
            HatOrders x = Check.townOf("h0;f1,0;f1,0;f1,0;");
            check.due("steps(" + n + ")", x.steps(n), n % 3);
            check.due("the step", x.hat(3), n);
            check.due("count(5)", x.count(5), n);
            check.due("the acts", x.count(6), n);
            check.due("undo()", x.undo(), n - 1);
            check.due("who had it", x.hat(0), (n - 1) % 3);
        }
    }

    private static void stepsToTheLast() {
        check.promise("'FULL: beyond STEP 999'");
        for (int n = 1; n <= 20; n++) {
            HatOrders x = atStep(999 - n);
            check.due("steps(" + n + ") to 999", x.steps(n) >= 0);
            check.due("hat(3)", x.hat(3), 999);
            HatOrders y = atStep(1000 - n);
            check.due("steps(" + n + ") to 1000", y.steps(n), Check.FULL);
            check.due("hat(3) stays", y.hat(3), 1000 - n);
            check.due("steps(" + n + ") less 1", n == 1 ? 0 : y.steps(n - 1), 0);
        }
    }

    private static HatOrders atStep(int step) {
        HatOrders x = Check.townOf("h0;f1,0;");
        for (int n = 0; n < step / 20; n++) {
            x.steps(20);
        }
        if (step % 20 > 0) {
            x.steps(step % 20);
        }
        check.due("the step", x.hat(3), step);
        return x;
    }

    private static void windByNumber() {
        check.promise("'WIND (0 to 5): what it was'");
        check.dueOnlyBetween("wind(..)", 0, 5, v -> Check.townOf("h3;f1,0;").wind(v));
        for (int was = 0; was <= 5; was++) {
            for (int v = 0; v <= 5; v++) {
                HatOrders x = Check.townOf("h" + was + ";f1,0;");
                check.due("wind(" + v + ")", x.wind(v), was);
                check.due("hat(2)", x.hat(2), v);
                check.due("undo()", x.undo(), 0);
                check.due("hat(2), undone", x.hat(2), was);
            }
        }
    }

    private static void windIsAnActEachTime() {
        check.promise("'each can be undone': wind() and give() that change nothing are ACTS, too");
        HatOrders x = Check.townOf("h3;f1,0;");
        x.wind(3);
        x.give(0);
        check.due("count(6)", x.count(6), 2);
        check.due("undo()", x.undo(), 1);
        check.due("undo()", x.undo(), 0);
        check.due("hat(2)", x.hat(2), 3);
    }

    private static void giftsByNumber() {
        check.promise("'The hat is GIVEN to a HEAD: who had it' (0 STEPS)");
        for (int heads = 1; heads <= 6; heads++) {
            String text = tableOf(0, heads, 0, 'f').replace("1,", "9,");
            check.dueOnlyBetween("give(..) of " + heads, 0, heads - 1, v -> Check.townOf(text).give(v));
            for (int head = 0; head < heads; head++) {
                HatOrders x = Check.townOf(text);
                x.steps(3);
                check.due("give(" + head + ")", x.give(head), 0);
                check.due("hat(0)", x.hat(0), head);
                check.due("hat(1)", x.hat(1), 0);
                check.due("undo()", x.undo(), 3);
                check.due("hat(0), undone", x.hat(0), 0);
                check.due("hat(1), undone", x.hat(1), 3);
            }
        }
    }

    private static void needsByNumber() {
        check.promise("'An ORDER is told (NEEDS 1 to 40): its number'");
        check.dueOnlyBetween("order(..)", 1, 40, v -> Check.townOf("h0;f1,0;").order(v));
        for (int needs = 1; needs <= 40; needs++) {
            HatOrders x = Check.townOf("h0;f1,0;o7;");
            check.due("order(" + needs + ")", x.order(needs), 1);
            check.due("NEEDS", x.orderHas(1, 0), needs);
            check.due("LEFT", x.orderHas(1, 1), needs);
            check.due("it is out", x.orderHas(1, 2), OUT);
            check.due("undo()", x.undo(), 0);
            check.due("it is gone", x.orderHas(1, 0), Check.BAD);
        }
    }

    private static void ordersAreFull() {
        check.promise("'FULL: there are 4', also if they are DONE or taken BACK");
        HatOrders x = Check.townOf("h0;f9,1;");
        for (int order = 0; order < 4; order++) {
            check.due("count(2)", x.count(2), order);
            check.due("order(1)", x.order(1), order);
        }
        check.due("order(1) of five", x.order(1), Check.FULL);
        x.steps(1);
        check.due("orderHas(0, 2)", x.orderHas(0, 2), DONE);
        check.due("order(1), one is done", x.order(1), Check.FULL);
        x.back(3);
        check.due("order(1), one is back", x.order(1), Check.FULL);
        for (int n = 0; n < 3; n++) {
            x.undo();
        }
        check.due("count(2), the fourth is undone", x.count(2), 3);
        check.due("order(2)", x.order(2), 3);
        check.due("orderHas(3, 0)", x.orderHas(3, 0), 2);
    }

    private static void backsByNumber() {
        check.promise("'An ORDER is taken BACK: what was LEFT. BAD; STATE: it is not out'");
        for (int orders = 0; orders <= 4; orders++) {
            String text = "h0;f9,1;" + "o5;o6;o7;o8;".substring(0, 3 * orders);
            check.dueOnlyBetween("back(..) of " + orders, 0, orders - 1, v -> Check.townOf(text).back(v));
        }
        HatOrders x = Check.townOf("h0;f9,3;o1;o9;");
        check.due("back(0), all is left", x.back(0), 1);
        check.due("back(0), it is back", x.back(0), Check.STATE);
        x.undo();
        check.due("orderHas(0, 2), undone", x.orderHas(0, 2), OUT);
        x.steps(1);
        check.due("back(0), it is done", x.back(0), Check.STATE);
        x.steps(8);
        check.due("back(1), one is left", x.back(1), 1);
        x.undo();
        check.due("orderHas(1, 1), undone", x.orderHas(1, 1), 1);
        x.steps(1);
        check.due("back(1), it is done", x.back(1), Check.STATE);
    }

    /** What can be seen ahead of each ACT is kept, so that undoing can be compared with it. */
    private static void actsAreForgotten() {
        check.promise("'ACTS (24 at most are kept, of more the oldest is forgotten ..)'");
        for (int acts : new int[] {0, 1, 23, 24, 25, 26, 47, 48, 49, 50}) {
            HatOrders x = Check.townOf("h0;f2,1;f3,1;f1,0;o40;");
            List<String> faces = new ArrayList<>();
            for (int n = 0; n < acts; n++) {
                faces.add(hatAndOrder(x));
                x.steps(1);
            }
            int kept = Math.min(24, acts);
            check.due("count(6) of " + acts, x.count(6), kept);
            for (int n = 1; n <= kept; n++) {
                check.due("undo() of " + acts, x.undo(), kept - n);
                check.due("as ahead of it", hatAndOrder(x).equals(faces.get(acts - n)));
            }
            check.due("undo() of the forgotten", x.undo(), Check.STATE);
            check.due("hat(3)", x.hat(3), acts - kept);
        }
        HatOrders y = Check.townOf("h0;f1,0;");
        y.steps(20);
        check.due("count(6) of 20", y.count(6), 20);
        y.steps(20);
        check.due("count(6) of 40", y.count(6), 24);
    }

    private static String hatAndOrder(HatOrders x) {
        return x.hat(0) + " " + x.hat(1) + " " + x.hat(3) + " " + x.orderHas(0, 1) + " " + x.head(1, 3);
    }

    /** Each sort of ACT is once the last that is kept, and once the first that is forgotten. */
    private static void actsOfAllSorts() {
        check.promise("'a STEP; WIND is another; the hat is GIVEN; an ORDER is told, or taken BACK'");
        String[] sorts = {"steps 1", "wind 4", "give 1", "order 7", "back 0"};
        for (String oldest : sorts) {
            for (int more = 23; more <= 24; more++) {
                HatOrders x = Check.townOf("h2;f2,1;w9,2;o9;o9;");
                String ahead = Check.face(x);
                Calls.make(x, oldest);
                String behind = Check.face(x);
                check.due(oldest + " changes something", !behind.equals(ahead));
                for (int n = 0; n < more; n++) {
                    x.give(n % 2);
                }
                for (int n = 0; n < 24; n++) {
                    x.undo();
                }
                String due = more == 23 ? ahead : behind;
                check.due(oldest + " with " + more + " more, all undone", Check.face(x).equals(due));
                check.due("undo() then", x.undo(), Check.STATE);
            }
        }
    }

    private static void undoneAndDoneAgain() {
        check.promise("'the latest first'; 'how many can be undone yet. STATE: none'");
        HatOrders x = Check.townOf("h2;f2,1;w1,3;b1,2;o9;o2;");
        for (int turn = 0; turn < 9; turn++) {
            x.steps(3);
            String ahead = hatAndOrder(x);
            x.give(turn % 3);
            x.steps(2);
            check.due("undo() of a step", x.undo(), Math.min(24, 3 * turn + 6) - 1);
            check.due("undo() of a step", x.undo(), Math.min(24, 3 * turn + 6) - 2);
            check.due("undo() of a gift", x.undo(), Math.min(24, 3 * turn + 6) - 3);
            check.due("as ahead of them, turn " + turn, hatAndOrder(x).equals(ahead));
        }
        check.due("hat(3)", x.hat(3), 27);
    }

    private static void whatsByNumber() {
        check.promise("'Of a HEAD: 0 .. 3'; 'Of an ORDER: 0 .. 2'; 'Of the hat: 0 .. 3'; 'How many: 0 .. 7'");
        HatOrders x = Check.townOf("h2;f2,1;w1,3;b1,2;o9;o2;");
        check.dueOnlyBetween("head(0, ..)", 0, 3, v -> x.head(0, v));
        check.dueOnlyBetween("head(.., 0)", 0, 2, v -> x.head(v, 0));
        check.dueOnlyBetween("orderHas(0, ..)", 0, 2, v -> x.orderHas(0, v));
        check.dueOnlyBetween("orderHas(.., 0)", 0, 1, v -> x.orderHas(v, 0));
        check.dueOnlyBetween("hat(..)", 0, 3, x::hat);
        check.dueOnlyBetween("count(..)", 0, 7, x::count);
        check.dueOnlyBetween("count(..), no town", 0, 7, v -> new HatOrders().count(v));
    }

    private static void whoHasTheHat() {
        check.promise("'2 whether it has the hat (1, 0), 3 how much it has done so far'");
        HatOrders x = Check.townOf("h1;f1,1;w1,1;s1,1;b1,1;t1,1;f1,0;o40;");
        for (int n = 0; n < 8; n++) {
            int who = x.hat(0);
            int sum = 0;
            for (int head = 0; head < 6; head++) {
                check.due("head(" + head + ", 2) behind " + n, x.head(head, 2), head == who ? 1 : 0);
                sum += x.head(head, 3);
            }
            check.due("done by all behind " + n, sum, 40 - x.orderHas(0, 1));
            int done = x.head(who, 3);
            x.steps(1);
            check.due("done by " + who + " behind " + (n + 1), x.head(who, 3), done + (who == 5 ? 0 : 1));
        }
    }

    private static void howOrdersAre() {
        check.promise("'2 whether it is out (0), DONE (1), taken BACK (2)'; '3 ORDERS that are out, 4 DONE'");
        HatOrders x = Check.townOf("h0;f9,1;o1;o2;o3;");
        x.steps(1);
        x.back(1);
        int[][] has = {{1, 0, 1}, {2, 2, 2}, {3, 3, 0}};
        for (int order = 0; order < 3; order++) {
            for (int what = 0; what < 3; what++) {
                check.due("orderHas(" + order + ", " + what + ")", x.orderHas(order, what), has[order][what]);
            }
        }
        check.due("count(2)", x.count(2), 3);
        check.due("count(3)", x.count(3), 1);
        check.due("count(4)", x.count(4), 1);
        x.undo();
        x.undo();
        for (int order = 0; order < 3; order++) {
            check.due("orderHas(" + order + ", 2), undone", x.orderHas(order, 2), 0);
        }
        check.due("count(3), undone", x.count(3), 3);
        check.due("count(4), undone", x.count(4), 0);
    }
}
