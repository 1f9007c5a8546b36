/** KINDS, ASKS, THE TRACE and status(), sentence by sentence. */
public final class AskEdgesTest {
    private static final int MAX = Integer.MAX_VALUE, MIN = Integer.MIN_VALUE;
    private static final String SORTS = "fstwb";
    private static final Check check = new Check();

    public static void main(String[] args) {
        numbers();
        kindsThatAreKinds();
        sizeAndMarkByHand();
        askedOfTheHeadItself();
        workThatIsUndone();
        traceIsEmptyAhead();
        traceByNumber();
        traceOutlives();
        countsAtTheirEnds();
        statusOfEachCall();
        statusIsOfNoOther();
        check.finish("AskEdgesTest");
    }

    private static void numbers() {
        check.promise("'The KIND of a HEAD, as told (1 to 5)'; 'a KIND (0 .. 5)'; 'An ASK (0, 1)'");
        StringBuilder text = new StringBuilder("h0;");
        for (int heads = 1; heads <= 6; heads++) {
            text.append(SORTS.charAt(heads % 5)).append("1,0;");
            HatOrders x = Check.townOf(text.toString());
            check.dueOnlyBetween("kind(..) of " + heads, 0, heads - 1, x::kind);
            check.dueOnlyBetween("as(.., 0) of " + heads, 0, heads - 1, v -> x.as(v, 0));
            check.dueOnlyBetween("ask(.., 0) of " + heads, 0, heads - 1, v -> x.ask(v, 0));
            check.dueOnlyBetween("ask(0, ..) of " + heads, 0, 1, v -> x.ask(0, v));
            check.due("as(0, 6)", x.as(0, 6), Check.BAD);
            check.due("as(0, -1)", x.as(0, -1), Check.BAD);
            check.due("as(0, MAX)", x.as(0, MAX), Check.BAD);
            check.due("as(0, MIN)", x.as(0, MIN), Check.BAD);
            check.due("kind of the last", x.kind(heads - 1), heads % 5 + 1);
        }
    }

    private static void kindsThatAreKinds() {
        check.promise("'0 HEAD; 1 FIRM, a HEAD; 2 SNEEZER, a FIRM; 3 TALL, a FIRM; 4 WINDY, a HEAD; 5 BRIM, a WINDY'");
        HatOrders x = Check.townOf("h0;f1,0;f1,0;s1,0;t1,0;w1,0;b1,0;");
        boolean[][] are = {{true, true, false, false, false, false}, {true, true, true, false, false, false},
            {true, true, false, true, false, false}, {true, false, false, false, true, false},
            {true, false, false, false, true, true}};
        for (int head = 1; head < 6; head++) {
            for (int kind = 0; kind < 6; kind++) {
                boolean is = are[head - 1][kind];
                check.due("as(" + head + ", " + kind + ")", x.as(head, kind), is ? head : Check.KIND);
                check.due("status()", x.status(), is ? 0 : 3);
            }
        }
    }

    /** SIZE and MARK of each sort at each place with each KEEPS, and what it has done. */
    private static void sizeAndMarkByHand() {
        check.promise("'0 SIZE: ..'; '1 MARK: ..'");
        for (int head = 0; head < 6; head++) {
            for (int sort = 0; sort < 5; sort++) {
                for (int keeps = 1; keeps <= 9; keeps += 4) {
                    HatOrders x = Check.townOf(textOf(head, SORTS.charAt(sort), keeps));
                    x.give(head);
                    x.steps(keeps);
                    int mark = firmMark(sort, head + keeps);
                    int[] sizes = {keeps + mark, -(keeps + mark), keeps + mark, keeps - 100, 2 * (keeps - 100)};
                    int[] marks = {mark, mark, mark, head - (keeps - 100), head - 2 * (keeps - 100)};
                    String of = " of " + SORTS.charAt(sort) + keeps + " at " + head;
                    check.due("ask(.., 0)" + of, x.ask(head, 0), sizes[sort]);
                    check.due("ask(.., 1)" + of, x.ask(head, 1), marks[sort]);
                }
            }
        }
    }

    private static String textOf(int head, char sort, int keeps) {
        StringBuilder text = new StringBuilder("h0;");
        for (int i = 0; i < 6; i++) {
            text.append(i == head ? sort + "" + keeps + ",1;" : "f1,0;");
        }
        return text + "o40;";
    }

    private static int firmMark(int sort, int numberAndWork) {
        int[] marks = {numberAndWork, 2 * numberAndWork, numberAndWork - 1000, 0, 0};
        return marks[sort];
    }

    private static void askedOfTheHeadItself() {
        check.promise("'SIZE, MARK within others are asked of the same HEAD anew'");
        HatOrders x = Check.townOf("h0;f1,0;s2,0;t3,0;w4,0;b5,0;");
        dueTrace(x, 0, 0, 11, 10, 21, 20);
        dueTrace(x, 1, 0, 12, 11, 10, 24, 21, 20);
        dueTrace(x, 2, 0, 11, 10, 22, 21, 20);
        dueTrace(x, 3, 0, 13, 10);
        dueTrace(x, 4, 0, 14, 13, 10);
        dueTrace(x, 0, 1, 21, 20);
        dueTrace(x, 1, 1, 24, 21, 20);
        dueTrace(x, 2, 1, 22, 21, 20);
        dueTrace(x, 3, 1, 23, 20, 13, 10);
        dueTrace(x, 4, 1, 23, 20, 14, 13, 10);
    }

    private static void dueTrace(HatOrders x, int head, int what, int... bodies) {
        x.ask(head, what);
        for (int i = 0; i <= 16; i++) {
            int due = i < bodies.length ? bodies[i] : Check.NONE;
            check.due("trace(" + i + ") of ask(" + head + ", " + what + ")", x.trace(i), due);
        }
    }

    private static void workThatIsUndone() {
        check.promise("'how much it has done of all ORDERS so far'");
        HatOrders x = Check.townOf("h0;f9,3;o1;o9;");
        check.due("ask(0, 1), nothing", x.ask(0, 1), 0);
        x.steps(4);
        check.due("ask(0, 1), of two orders", x.ask(0, 1), 4);
        check.due("head(0, 3), of two orders", x.head(0, 3), 4);
        x.back(1);
        check.due("ask(0, 1), one is back", x.ask(0, 1), 4);
        x.undo();
        x.undo();
        check.due("ask(0, 1), a step undone", x.ask(0, 1), 3);
        x.image(0);
        x.steps(5);
        x.restore(0);
        check.due("ask(0, 1), as it was kept", x.ask(0, 1), 3);
    }

    private static void traceIsEmptyAhead() {
        check.promise("'THE TRACE is empty ahead of it'; what is refused leaves it");
        HatOrders x = Check.townOf("h0;s1,0;w1,0;");
        x.ask(0, 0);
        x.ask(1, 0);
        check.due("trace(0)", x.trace(0), 13);
        check.due("trace(1)", x.trace(1), 10);
        check.due("trace(2)", x.trace(2), Check.NONE);
        x.ask(2, 0);
        x.ask(-1, 0);
        x.ask(0, 2);
        x.ask(0, -1);
        check.due("trace(0), refused", x.trace(0), 13);
        check.due("trace(1), refused", x.trace(1), 10);
    }

    private static void traceByNumber() {
        check.promise("'Number i of THE TRACE; NONE'");
        HatOrders x = Check.townOf("h0;s1,0;");
        check.due("trace(0), none asked", x.trace(0), Check.NONE);
        x.ask(0, 0);
        check.due("trace(5), the last", x.trace(5), 20);
        for (int i : new int[] {6, 7, 15, 16, 17, MAX, -1, -16, MIN}) {
            check.due("trace(" + i + ")", x.trace(i), Check.NONE);
        }
    }

    private static void traceOutlives() {
        check.promise("THE TRACE is that of the latest ask()");
        HatOrders x = Check.townOf("h0;w1,0;f1,0;");
        x.ask(0, 0);
        x.image(0);
        x.steps(2);
        x.kind(0);
        x.as(0, 4);
        Check.feed(x, "h0;f1,0;");
        x.town();
        x.restore(0);
        check.due("trace(0)", x.trace(0), 13);
        check.due("trace(1)", x.trace(1), 10);
        check.due("trace(2)", x.trace(2), Check.NONE);
    }

    private static void countsAtTheirEnds() {
        check.promise("'How many: 0 ROWS .. 7 bytes on the tape': of none, of all");
        HatOrders x = Check.townOf("h0;f9,15;f9,0;f9,0;f9,0;f9,0;f9,0;o1;o1;o1;o1;");
        for (int row = 0; row < 8; row++) {
            x.row(row, row % 3, 5 * row);
        }
        int[] full = {8, 6, 4, 4, 0, 0, 0, 0};
        int[] done = {8, 6, 4, 0, 4, 4, 4, 0};
        for (int what = 0; what < 8; what++) {
            check.due("count(" + what + ")", x.count(what), full[what]);
        }
        x.steps(4);
        for (int what = 0; what < 8; what++) {
            check.due("count(" + what + ") behind four", x.count(what), done[what]);
        }
        x.order(1);
        for (int n = 0; n < 4; n++) {
            x.undo();
            x.back(n);
            x.undo();
        }
        check.due("count(3), undone", x.count(3), 4);
        x.back(2);
        check.due("count(3), one is back", x.count(3), 3);
        check.due("count(4), one is back", x.count(4), 0);
        check.due("count(2), one is back", x.count(2), 4);
    }

    /** Ahead of each call status() tells of a KIND, so that 0 is the call's own. */
    private static void statusOfEachCall() {
        check.promise("'Of the latest call with a ROW, or as(): the number of its FINDING; 0: it had none'");
        String[][] told = {{"row 0 0 0", "0"}, {"row 0 0 -1", "4"}, {"set 1 0 1", "0"}, {"set 1 2 1", "2"},
            {"set 2 0 1", "1"}, {"copy 1 0 1 0 0", "0"}, {"copy 1 0 2 0 0", "1"}, {"copy 1 0 3 0 0", "5"},
            {"copy 1 0 1 0 3", "2"}, {"drop 1", "0"}, {"drop 2", "1"}, {"seen 1 0 1 0", "0"}, {"seen 1 0 1 1", "0"},
            {"seen 1 2 1 0", "2"}, {"seen 2 0 1 0", "1"}, {"keeps 0 1 0 1", "0"}, {"keeps 0 1 2 1", "2"},
            {"keeps 0 2 0 1", "1"}, {"as 0 0", "0"}, {"as 0 1", "0"}, {"as 0 2", "3"}};
        for (String[] pair : told) {
            HatOrders x = Check.townOf("h0;f1,0;w1,0;");
            x.row(1, 0, 2);
            x.row(3, 1, 2);
            check.due("as(1, 1)", x.as(1, 1), Check.KIND);
            Calls.make(x, pair[0]);
            check.due("status() of " + pair[0], x.status(), Calls.answer(pair[1]));
            check.due("status() of " + pair[0] + ", again", x.status(), Calls.answer(pair[1]));
        }
        check.due("status(), there was none", new HatOrders().status(), 0);
    }

    private static void statusIsOfNoOther() {
        check.promise("status() is not of calls without a ROW, nor of those that were BAD, STATE, FULL");
        HatOrders x = Check.townOf("h0;f1,1;w1,0;o1;");
        x.row(0, 0, 1);
        x.set(0, 1, 0);
        String[] told = {"row 8 0 1", "row 0 3 1", "row 0 0 41", "set 8 0 0", "copy 0 0 8 0 0", "copy 8 0 0 0 0", "drop 8",
            "seen 8 0 1 0", "seen 0 0 0 0", "seen 0 0 17 0", "seen 0 0 1 2", "keeps 2 0 0 1", "keeps 0 8 0 1",
            "keeps 0 0 0 0", "keeps 0 0 0 17", "as 2 0", "as 0 6", "feed 104", "feed 256", "town", "fault", "steps 1",
            "steps 21", "wind 2", "wind 6", "give 0", "give 2", "order 3", "order 0", "back 1", "back 0", "undo",
            "head 0 0", "orderHas 0 0", "hat 0", "who 3", "gets 1", "ever 3", "round 0", "done 0", "first", "by 0 3",
            "toGive 0 0", "winds 0 3", "lot 0 3 0", "image 0", "restore 0", "restore 1", "kind 0", "ask 0 0", "trace 0",
            "count 0"};
        for (String call : told) {
            Calls.make(x, call);
            check.due("status() behind " + call, x.status(), 2);
        }
        HatOrders none = new HatOrders();
        none.drop(3);
        check.due("seen(3, 0, 1, 0), no town", none.seen(3, 0, 1, 0), Check.STATE);
        check.due("status() behind STATE", none.status(), 1);
    }
}
