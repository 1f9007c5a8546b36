/** The document's first paragraph and its ROWS, sentence by sentence: which refusal is first, where numbers end. */
public final class TermsEdgesTest {
    private static final int MAX = Integer.MAX_VALUE, MIN = Integer.MIN_VALUE;
    /** HEAD 0 firm; ORDER 0 is DONE on STEP 2, ORDER 1 on 3. */
    private static final String FIVE = "h2;f2,1;s1,2;t1,3;w1,0;b1,4;o2;o1;";
    private static final Check check = new Check();

    public static void main(String[] args) {
        constants();
        fractions();
        badAheadOfState();
        stateAheadOfBad();
        badAheadOfFull();
        badAheadOfFindings();
        findingsInTime();
        findingsByNumber();
        rowsByNumber();
        lanesByNumber();
        sizes();
        itemsAtFirst();
        itemsOfLanes();
        places();
        copiesToTheEnds();
        copiesAsTheyWereAhead();
        rowsComeAndGo();
        check.finish("TermsEdgesTest");
    }

    private static void constants() {
        check.promise("the public face: NONE, BAD, STATE, FULL");
        check.due("NONE", HatOrders.NONE, -1000000);
        check.due("BAD", HatOrders.BAD, -1000001);
        check.due("STATE", HatOrders.STATE, -1000002);
        check.due("FULL", HatOrders.FULL, -1000003);
    }

    /** With six at the table a windy HEAD 0 goes to as many as WINDS bring; the others send it on or back. */
    private static void fractions() {
        check.promise("'fractions, told as two numbers in lowest terms (0 is 0 by 1)'");
        int[][] due = {{0, 1}, {1, 6}, {1, 3}, {1, 2}, {2, 3}, {5, 6}, {1, 1}};
        for (int backs = 0; backs <= 5; backs++) {
            StringBuilder text = new StringBuilder("h0;w1,0;");
            for (int head = 1; head <= 5; head++) {
                text.append(head <= backs ? "b1,0;" : "f9,0;");
            }
            HatOrders x = Check.townOf(text.toString());
            check.due("lot(0, 2, 0) of " + (backs + 1) + " by 6", x.lot(0, 2, 0), due[backs + 1][0]);
            check.due("lot(0, 2, 1) of " + (backs + 1) + " by 6", x.lot(0, 2, 1), due[backs + 1][1]);
        }
        HatOrders none = Check.townOf("h0;f9,0;f9,0;");
        check.due("lot(1, 0, 0) of 0 by 6", none.lot(1, 0, 0), due[0][0]);
        check.due("lot(1, 0, 1) of 0 by 6", none.lot(1, 0, 1), due[0][1]);
    }

    private static void badAheadOfState() {
        check.promise("'the first of these that fits': BAD ahead of STATE");
        HatOrders x = Check.townOf(FIVE);
        x.steps(2);
        check.due("toGive(0, 2), not out", x.toGive(0, 2), Check.BAD);
        check.due("toGive(0, 1), not out", x.toGive(0, 1), Check.STATE);
        check.due("image(2), no town", new HatOrders().image(2), Check.BAD);
        check.due("image(-1), no town", new HatOrders().image(-1), Check.BAD);
        check.due("image(1), no town", new HatOrders().image(1), Check.STATE);
        check.due("restore(2), none kept", new HatOrders().restore(2), Check.BAD);
        check.due("restore(-1), none kept", new HatOrders().restore(-1), Check.BAD);
        check.due("restore(1), none kept", new HatOrders().restore(1), Check.STATE);
    }

    private static void stateAheadOfBad() {
        check.promise("'STATE: no TOWN (ahead of BAD)'");
        String[] told = {"steps 0", "steps 21", "steps 1", "wind -1", "wind 6", "wind 0", "order 0", "order 41",
            "order 1", "hat -1", "hat 4", "hat 0", "who -1", "who 61", "who 0", "ever -1", "ever 61", "ever 0",
            "round -1", "round 2", "round 0", "first", "seen 8 0 1 0", "seen 0 0 17 0", "seen 0 0 0 0",
            "seen 0 0 1 2", "seen 0 0 1 0", "seen -1 -1 -1 -1"};
        for (String call : told) {
            check.due(call + ", no town", Calls.make(new HatOrders(), call), Check.STATE);
        }
        check.promise("'BAD (.. there is no such thing)', where no STATE is told ahead of it");
        String[] noSuchThing = {"give 0", "back 0", "head 0 0", "orderHas 0 0", "gets 0", "done 0", "by 0 0",
            "toGive 0 0", "winds 0 0", "lot 0 0 0", "keeps 0 0 0 1", "kind 0", "as 0 0", "ask 0 0"};
        for (String call : noSuchThing) {
            check.due(call + ", no town", Calls.make(new HatOrders(), call), Check.BAD);
        }
    }

    private static void badAheadOfFull() {
        check.promise("'the first of these that fits': BAD ahead of FULL");
        HatOrders x = new HatOrders();
        for (int n = 0; n < 120; n++) {
            x.feed(97);
        }
        check.due("feed(-1) of 121", x.feed(-1), Check.BAD);
        check.due("feed(256) of 121", x.feed(256), Check.BAD);
        check.due("feed(0) of 121", x.feed(0), Check.FULL);
        HatOrders y = Check.townOf("h0;f1,0;o1;o1;o1;o1;");
        check.due("order(0) of five", y.order(0), Check.BAD);
        check.due("order(41) of five", y.order(41), Check.BAD);
        check.due("order(40) of five", y.order(40), Check.FULL);
        for (int n = 0; n < 49; n++) {
            y.steps(20);
        }
        check.due("steps(21) from 980", y.steps(21), Check.BAD);
        check.due("steps(20) from 980", y.steps(20), Check.FULL);
        check.due("steps(0) from 980", y.steps(0), Check.BAD);
    }

    private static void badAheadOfFindings() {
        check.promise("'the first of these that fits': BAD ahead of FINDINGS");
        HatOrders x = Check.townOf(FIVE);
        String[] told = {"row -1 0 -1", "row 8 0 -1", "row 0 -1 -1", "row 0 3 -1", "set -1 -1 0", "set 8 -1 0",
            "copy -1 -1 0 -1 -1", "copy 8 0 0 0 0", "copy 0 0 -1 0 0", "copy 0 -1 8 -1 -1", "drop -1", "drop 8",
            "seen 8 -1 1 0", "seen 0 -1 0 0", "seen 0 -1 17 0", "seen 0 -1 1 2", "seen 0 -1 1 -1",
            "keeps 5 0 -1 1", "keeps -1 0 -1 1", "keeps 0 8 -1 1", "keeps 0 0 -1 0", "keeps 0 0 -1 17",
            "as 5 5", "as -1 5", "as 0 6", "as 0 -1"};
        for (String call : told) {
            check.due(call + ", the rows are missing", Calls.make(x, call), Check.BAD);
        }
        check.due("status()", x.status(), 0);
    }

    private static void findingsInTime() {
        check.promise("'FINDINGS, of several the first in time'");
        HatOrders x = Check.townOf(FIVE);
        x.row(0, 0, 2);
        x.row(1, 1, 2);
        String[][] told = {{"set 2 -1 0", "NULL"}, {"set 2 MAX 0", "NULL"}, {"set 0 2 0", "PLACE"},
            {"copy 2 -1 0 -1 -1", "NULL"}, {"copy 0 -1 2 -1 -1", "NULL"}, {"copy 2 0 3 0 0", "NULL"},
            {"copy 2 0 2 0 0", "NULL"}, {"copy 0 -1 1 0 0", "STORE"}, {"copy 0 0 1 -1 0", "STORE"},
            {"copy 1 0 0 0 -1", "STORE"}, {"copy 0 3 1 3 0", "STORE"}, {"copy 0 0 0 0 3", "PLACE"},
            {"seen 2 -1 1 0", "NULL"}, {"seen 0 -1 1 0", "PLACE"}, {"keeps 0 2 -1 1", "NULL"},
            {"keeps 0 0 -1 1", "PLACE"}};
        for (String[] pair : told) {
            check.due(pair[0], Calls.make(x, pair[0]), Calls.answer(pair[1]));
        }
    }

    private static void findingsByNumber() {
        check.promise("'-1000010 less 1 NULL, 2 PLACE, 3 KIND, 4 SIZE, 5 STORE', and status()");
        HatOrders x = Check.townOf(FIVE);
        x.row(0, 0, 0);
        x.row(1, 2, 0);
        String[] told = {"drop 7", "set 0 0 0", "as 0 2", "row 0 0 -1", "copy 0 0 1 0 0"};
        for (int number = 1; number <= 5; number++) {
            check.due(told[number - 1], Calls.make(x, told[number - 1]), -1000010 - number);
            check.due("status() of " + told[number - 1], x.status(), number);
        }
    }

    private static void rowsByNumber() {
        check.promise("'ROWS 0 .. 7'");
        HatOrders x = Check.townOf(FIVE);
        check.dueOnlyBetween("row(.., 0, 1)", 0, 7, v -> x.row(v, 0, 1));
        check.dueOnlyBetween("set(.., 0, 1)", 0, 7, v -> x.set(v, 0, 1));
        check.dueOnlyBetween("copy(.., 0, 0, 0, 1)", 0, 7, v -> x.copy(v, 0, 0, 0, 1));
        check.dueOnlyBetween("copy(0, 0, .., 0, 1)", 0, 7, v -> x.copy(0, 0, v, 0, 1));
        check.dueOnlyBetween("seen(.., 0, 1, 0)", 0, 7, v -> x.seen(v, 0, 1, 0));
        check.dueOnlyBetween("keeps(0, .., 0, 1)", 0, 7, v -> x.keeps(0, v, 0, 1));
        check.due("count(0), all there", x.count(0), 8);
        check.dueOnlyBetween("drop(..)", 0, 7, x::drop);
        check.due("count(0), all missing", x.count(0), 0);
    }

    private static void lanesByNumber() {
        check.promise("'a LANE (0 bytes, 1 shorts, 2 ints)'");
        HatOrders x = new HatOrders();
        check.dueOnlyBetween("row(0, .., 1)", 0, 2, v -> x.row(0, v, 1));
        int[] cut = {112, 4464, 70000};
        for (int lane = 0; lane <= 2; lane++) {
            x.row(0, lane, 1);
            check.due("set(0, 0, 70000) of lane " + lane, x.set(0, 0, 70000), cut[lane]);
        }
    }

    private static void sizes() {
        check.promise("'0 to 40 ITEMS'; 'BAD: .. n above 40; SIZE'");
        for (int n = 0; n <= 40; n++) {
            HatOrders x = new HatOrders();
            check.due("row(3, 0, " + n + ")", x.row(3, 0, n), n);
            check.due("no item " + n, x.set(3, n, 0), Check.PLACE);
            check.due("the last of " + n, x.set(3, n - 1, 7), n == 0 ? Check.PLACE : 7);
            check.due("drop(3) of " + n, x.drop(3), n);
        }
        HatOrders y = new HatOrders();
        check.due("row(0, 0, 41)", y.row(0, 0, 41), Check.BAD);
        check.due("row(0, 0, MAX)", y.row(0, 0, MAX), Check.BAD);
        check.due("row(0, 0, -1)", y.row(0, 0, -1), Check.SIZE);
        check.due("row(0, 0, MIN)", y.row(0, 0, MIN), Check.SIZE);
        check.due("count(0)", y.count(0), 0);
    }

    private static void itemsAtFirst() {
        check.promise("'ITEMS, 0 at first'");
        HatOrders x = Check.reader();
        x.row(7, 2, 40);
        for (int i = 0; i < 40; i++) {
            check.due("item " + i + " of a new row", Check.item(x, 7, i), 0);
        }
        for (int i = 0; i < 40; i++) {
            x.set(7, i, 5);
        }
        x.row(7, 2, 40);
        check.due("item 0 of a row in place", Check.item(x, 7, 0), 0);
        check.due("item 39 of a row in place", Check.item(x, 7, 39), 0);
        x.set(7, 39, 5);
        x.row(7, 2, 1);
        x.row(7, 2, 40);
        check.due("item 39 behind a short row", Check.item(x, 7, 39), 0);
    }

    private static void itemsOfLanes() {
        check.promise("'ITEM i becomes v, its lowest bits, as many as the LANE has'");
        HatOrders x = Check.reader();
        for (int lane = 0; lane <= 2; lane++) {
            x.row(lane, lane, 1);
        }
        int[][] due = {{127, 127, 127, 127}, {128, -128, 128, 128}, {-128, -128, -128, -128},
            {-129, 127, -129, -129}, {255, -1, 255, 255}, {256, 0, 256, 256}, {32767, -1, 32767, 32767},
            {32768, 0, -32768, 32768}, {-32768, 0, -32768, -32768}, {-32769, -1, 32767, -32769},
            {65535, -1, -1, 65535}, {65536, 0, 0, 65536}, {MAX, -1, -1, MAX}, {MIN, 0, 0, MIN}, {-1, -1, -1, -1}};
        for (int[] one : due) {
            for (int lane = 0; lane <= 2; lane++) {
                check.due("set(" + lane + ", 0, " + one[0] + ")", x.set(lane, 0, one[0]), one[lane + 1]);
            }
        }
        x.set(0, 0, 256 + 3);
        check.due("a byte is kept cut", Check.item(x, 0, 0), 3);
        x.set(1, 0, 65536 + 4);
        check.due("a short is kept cut", Check.item(x, 1, 0), 4);
        x.set(2, 0, 65536 + 4);
        check.due("an int is kept whole", Check.item(x, 2, 0), -2);
    }

    private static void places() {
        check.promise("'PLACE (no such place of a ROW)'");
        HatOrders x = Check.townOf(FIVE);
        x.row(0, 0, 16);
        x.row(1, 0, 0);
        for (int i : new int[] {MIN, -1, 16, 17, 40, MAX}) {
            check.due("set(0, " + i + ", 0)", x.set(0, i, 0), Check.PLACE);
            check.due("seen(0, " + i + ", 1, 0)", x.seen(0, i, 1, 0), Check.PLACE);
            check.due("keeps(0, 0, " + i + ", 1)", x.keeps(0, 0, i, 1), Check.PLACE);
        }
        check.due("set(0, 0, 9)", x.set(0, 0, 9), 9);
        check.due("set(0, 15, 9)", x.set(0, 15, 9), 9);
        check.due("set(1, 0, 9) of an empty row", x.set(1, 0, 9), Check.PLACE);
        check.due("seen(1, 0, 1, 0) of an empty row", x.seen(1, 0, 1, 0), Check.PLACE);
        check.due("keeps(0, 1, 0, 1) of an empty row", x.keeps(0, 1, 0, 1), Check.PLACE);
        for (int n = 1; n <= 16; n++) {
            check.due("seen to the end by " + n, x.seen(0, 16 - n, n, 0) >= 0);
            check.due("seen beyond the end by " + n, x.seen(0, 17 - n, n, 0), Check.PLACE);
            check.due("keeps to the end by " + n, x.keeps(0, 0, 16 - n, n) >= 0);
            check.due("keeps beyond the end by " + n, x.keeps(0, 0, 17 - n, n), Check.PLACE);
        }
    }

    private static void copiesToTheEnds() {
        check.promise("'PLACE (i, j, n below 0, or beyond an end)'");
        for (int i = -1; i <= 6; i++) {
            HatOrders x = fiveAndThree();
            for (int j = -1; j <= 4; j++) {
                for (int n = -1; n <= 6; n++) {
                    boolean fits = i >= 0 && j >= 0 && n >= 0 && i + n <= 5 && j + n <= 3;
                    check.due("copy(0, " + i + ", 1, " + j + ", " + n + ")", x.copy(0, i, 1, j, n), fits ? n : Check.PLACE);
                    check.due("status() of it", x.status(), fits ? 0 : 2);
                }
            }
        }
        copiesFarBeyond();
        copiesOfEmptyAndFullRows();
    }

    private static HatOrders fiveAndThree() {
        HatOrders x = new HatOrders();
        x.row(0, 1, 5);
        x.row(1, 1, 3);
        return x;
    }

    private static void copiesFarBeyond() {
        HatOrders x = fiveAndThree();
        int[][] far = {{MAX, 0, 1}, {0, MAX, 1}, {0, 0, MAX}, {MAX, MAX, MAX}, {1, 1, MAX}, {MIN, 0, 0},
            {0, MIN, 0}, {0, 0, MIN}, {MIN, MIN, MIN}, {MAX, 0, MIN}, {0, MAX, MIN}, {MIN, MIN, MAX}};
        for (int[] f : far) {
            check.due("copy(0, " + f[0] + ", 1, " + f[1] + ", " + f[2] + ")", x.copy(0, f[0], 1, f[1], f[2]), Check.PLACE);
        }
    }

    private static void copiesOfEmptyAndFullRows() {
        HatOrders x = new HatOrders();
        x.row(2, 1, 0);
        check.due("copy(2, 0, 2, 0, 0) of an empty row", x.copy(2, 0, 2, 0, 0), 0);
        check.due("copy(2, 0, 2, 0, 1) of an empty row", x.copy(2, 0, 2, 0, 1), Check.PLACE);
        check.due("copy(2, 1, 2, 0, 0) of an empty row", x.copy(2, 1, 2, 0, 0), Check.PLACE);
        x.row(3, 0, 40);
        x.row(4, 0, 40);
        check.due("copy(3, 0, 4, 0, 40) of full rows", x.copy(3, 0, 4, 0, 40), 40);
        check.due("copy(3, 0, 4, 0, 41) of full rows", x.copy(3, 0, 4, 0, 41), Check.PLACE);
        check.due("copy(3, 39, 4, 39, 1) of full rows", x.copy(3, 39, 4, 39, 1), 1);
    }

    private static void copiesAsTheyWereAhead() {
        check.promise("'n ITEMS of a from i on come to b from j on, as they were ahead'");
        for (int i = 0; i <= 5; i++) {
            for (int j = 0; j <= 5; j++) {
                for (int n = 0; n <= 5 - Math.max(i, j); n++) {
                    HatOrders x = Check.reader();
                    Check.fill(x, 0, 0, 5, 4, 3, 2, 1);
                    int[] due = {5, 4, 3, 2, 1};
                    for (int k = 0; k < n; k++) {
                        due[j + k] = 5 - (i + k);
                    }
                    check.due("copy(0, " + i + ", 0, " + j + ", " + n + ")", x.copy(0, i, 0, j, n), n);
                    check.dueItems("copy(0, " + i + ", 0, " + j + ", " + n + ")", x, 0, due);
                }
            }
        }
    }

    private static void rowsComeAndGo() {
        check.promise("'A ROW is missing from now on: how many ITEMS it had'");
        HatOrders x = Check.townOf(FIVE);
        x.row(0, 0, 3);
        x.row(1, 0, 3);
        check.due("drop(0)", x.drop(0), 3);
        String[] told = {"set 0 0 0", "copy 0 0 1 0 0", "copy 1 0 0 0 0", "drop 0", "seen 0 0 1 0", "keeps 0 0 0 1"};
        for (String call : told) {
            check.due(call + ", dropped", Calls.make(x, call), Check.NULL);
        }
        check.due("row(0, 2, 0)", x.row(0, 2, 0), 0);
        check.due("count(0), an empty row is there", x.count(0), 2);
        check.due("drop(0) of an empty row", x.drop(0), 0);
        check.due("count(0)", x.count(0), 1);
    }
}
