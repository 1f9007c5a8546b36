/** What is FORETOLD, sentence by sentence: now, behind 60 STEPS, behind 61; of none, of all; images. */
public final class ForetoldEdgesTest {
    /** HEAD 5 gets it behind 13 four times and as many STEPS as HEAD 4 keeps it: 60, 61. */
    private static final String SIXTY = "h0;t9,0;t9,0;t9,0;t9,0;f8,0;f1,0;o1;o1;o1;o1;";
    private static final String SIXTY_ONE = "h0;t9,0;t9,0;t9,0;t9,0;f9,0;f1,0;o1;o1;o1;o1;";
    /** The last HEAD does ORDER 0 on STEP 61 (59 STEPS by the others, then its second). */
    private static final String WORK_ON_61 = "h0;t9,0;t9,0;t9,0;t9,0;f7,0;f2,1;o2;o1;o1;o1;";
    private static final String WORK_ON_60 = "h0;t9,0;t9,0;t9,0;t9,0;f6,0;f2,1;o2;o1;o1;o1;";
    /** All sorts, ORDERS that are done one behind the other. */
    private static final String[] TOWNS = {"h2;f2,1;s1,2;t1,3;w1,0;b1,4;o2;o1;", "h3;w2,15;b1,7;t2,9;o9;o5;o7;o40;",
        "h5;s2,1;b3,6;w1,8;t1,0;f1,15;s1,4;o3;o8;o20;o1;", "h1;t9,1;b9,2;o30;o30;", "h4;f1,0;"};
    private static final Check check = new Check();

    public static void main(String[] args) {
        spansByNumber();
        numbersOfHeadsAndOrders();
        asItGoes();
        getsNowAndBehindSixty();
        everNowAndBehindSixty();
        roundOfOneAndOfSixty();
        roundByAllOfIt();
        doneBySixty();
        doneWhenItWas();
        firstBySixty();
        firstOfThoseOut();
        byNoneAndBySixty();
        toGiveBySixty();
        toGiveOfSeveral();
        windsOfNoneAndOfAll();
        seenByNumber();
        seenByItems();
        keepsByBits();
        keepsOfOthers();
        foretoldBeyondTheLastStep();
        imagesByNumber();
        imagesKeepAll();
        check.finish("ForetoldEdgesTest");
    }

    private static void spansByNumber() {
        check.promise("'d STEPS from now (0 to 60)'");
        HatOrders x = Check.townOf(TOWNS[0]);
        check.dueOnlyBetween("who(..)", 0, 60, x::who);
        check.dueOnlyBetween("ever(..)", 0, 60, x::ever);
        check.dueOnlyBetween("by(0, ..)", 0, 60, v -> x.by(0, v));
        check.dueOnlyBetween("winds(0, ..)", 0, 60, v -> x.winds(0, v));
        check.dueOnlyBetween("lot(0, .., 0)", 0, 60, v -> x.lot(0, v, 0));
    }

    private static void numbersOfHeadsAndOrders() {
        check.promise("HEADS, ORDERS and what is asked of them, by number");
        HatOrders x = Check.townOf(TOWNS[0]);
        Check.fill(x, 0, 0, 0, 0);
        check.dueOnlyBetween("gets(..)", 0, 4, x::gets);
        check.dueOnlyBetween("by(.., 0)", 0, 4, v -> x.by(v, 0));
        check.dueOnlyBetween("winds(.., 0)", 0, 4, v -> x.winds(v, 0));
        check.dueOnlyBetween("lot(.., 0, 0)", 0, 4, v -> x.lot(v, 0, 0));
        check.dueOnlyBetween("lot(0, 0, ..)", 0, 1, v -> x.lot(0, 0, v));
        check.dueOnlyBetween("keeps(.., 0, 0, 1)", 0, 4, v -> x.keeps(v, 0, 0, 1));
        check.dueOnlyBetween("done(..)", 0, 1, x::done);
        check.dueOnlyBetween("toGive(.., 0)", 0, 1, v -> x.toGive(v, 0));
        check.dueOnlyBetween("toGive(0, ..)", 0, 1, v -> x.toGive(0, v));
        check.dueOnlyBetween("round(..)", 0, 1, x::round);
        check.dueOnlyBetween("seen(0, 0, 1, ..)", 0, 1, v -> x.seen(0, 0, 1, v));
    }

    /** What is told of each d is what comes to be behind as many STEPS. */
    private static void asItGoes() {
        check.promise("'WHO has the hat then', EVER, GETS, BY: as it goes, for each d from 0 to 60");
        for (String text : TOWNS) {
            HatOrders now = Check.townOf(text);
            HatOrders then = Check.townOf(text);
            int ever = 0;
            int[] first = {Check.NONE, Check.NONE, Check.NONE, Check.NONE, Check.NONE, Check.NONE};
            for (int d = 0; d <= 60; d++) {
                int who = d == 0 ? then.hat(0) : then.steps(1);
                ever |= 1 << who;
                first[who] = first[who] == Check.NONE ? d : first[who];
                check.due("who(" + d + ") of " + text, now.who(d), who);
                check.due("ever(" + d + ") of " + text, now.ever(d), ever);
                check.due("by(0, " + d + ") of " + text, now.by(0, d), then.head(0, 3));
            }
            for (int head = 0; head < now.count(1); head++) {
                check.due("gets(" + head + ") of " + text, now.gets(head), first[head]);
                check.due("by(" + head + ", 60) of " + text, now.by(head, 60), then.head(head, 3));
            }
            check.due("nothing changes", Check.face(now).equals(Check.face(Check.townOf(text))));
        }
    }

    private static void getsNowAndBehindSixty() {
        check.promise("'GETS: behind how many STEPS (0, now, to 60) a HEAD first has it; NONE'");
        HatOrders x = Check.townOf(SIXTY);
        check.due("gets(0), now", x.gets(0), 0);
        check.due("gets(5) of 60", x.gets(5), 60);
        HatOrders y = Check.townOf(SIXTY_ONE);
        check.due("gets(5) of 61", y.gets(5), Check.NONE);
        y.steps(1);
        check.due("gets(5) of 61 behind one", y.gets(5), 60);
        y.steps(20);
        y.steps(20);
        y.steps(20);
        check.due("gets(5), now", y.gets(5), 0);
        check.due("gets(0), the next", y.gets(0), 1);
        HatOrders never = Check.townOf("h0;w1,0;f1,0;");
        check.due("gets(1), never", never.gets(1), Check.NONE);
    }

    private static void everNowAndBehindSixty() {
        check.promise("'EVER: HEADS (bits) who have it now, or behind one of the next d STEPS'");
        HatOrders x = Check.townOf(SIXTY);
        check.due("ever(0)", x.ever(0), 1);
        check.due("ever(12)", x.ever(12), 1);
        check.due("ever(13)", x.ever(13), 3);
        check.due("ever(59)", x.ever(59), 31);
        check.due("ever(60)", x.ever(60), 63);
        check.due("ever(60) of 61", Check.townOf(SIXTY_ONE).ever(60), 31);
        x.give(5);
        check.due("ever(0) of the last", x.ever(0), 32);
        check.due("ever(1) of the last", x.ever(1), 33);
    }

    private static void roundOfOneAndOfSixty() {
        check.promise("'ROUND: behind how many STEPS (1 to 60) .. is first as it was behind fewer; that many fewer; NONE'");
        dueRound("h0;f1,0;", 1, 0);
        dueRound("h0;w1,1;o1;", 2, 1);
        dueRound("h0;f1,3;o40;o19;", 60, 59);
        dueRound("h0;f1,3;o40;o20;", Check.NONE, Check.NONE);
        dueRound("h0;f9,0;f9,0;f9,0;f9,0;f9,0;f9,0;", 54, 0);
        dueRound("h0;t9,0;t9,0;t9,0;t9,0;f7,0;f1,0;o1;o1;o1;o1;", 60, 0);
        dueRound(SIXTY, Check.NONE, Check.NONE);
    }

    /** What differs in one thing alone is not as it was. */
    private static void roundByAllOfIt() {
        check.promise("ROUND by 'who has the hat, for how long, and what is LEFT of all ORDERS'");
        dueRound("h0;f1,0;f1,0;", 2, 0);
        dueRound("h0;f2,0;", 2, 0);
        dueRound("h0;f1,1;o2;", 3, 2);
        dueRound("h0;f1,2;o9;o2;", 3, 2);
        dueRound("h0;f1,8;o9;o9;o9;o2;", 3, 2);
        dueRound("h0;f1,15;o1;o1;o1;o1;", 5, 4);
        dueRound("h0;f1,15;o40;o1;o1;o1;", 44, 43);
        HatOrders x = Check.townOf("h0;f1,3;o9;o2;");
        x.back(0);
        check.due("round(0), one is back", x.round(0), 3);
        x.back(1);
        check.due("round(0), all are back", x.round(0), 1);
        HatOrders y = Check.townOf("h0;f3,0;");
        y.steps(2);
        check.due("round(0) from the midst", y.round(0), 3);
        check.due("round(1) from the midst", y.round(1), 0);
    }

    private static void dueRound(String text, int behind, int fewer) {
        HatOrders x = Check.townOf(text);
        check.due("round(0) of " + text, x.round(0), behind);
        check.due("round(1) of " + text, x.round(1), fewer);
    }

    private static void doneBySixty() {
        check.promise("'DONE: on which STEP an ORDER is DONE (behind how many in all ..); NONE: it is not, by 60 more'");
        check.due("done(0) on 1", Check.townOf("h0;f1,1;o1;").done(0), 1);
        check.due("done(0) on 60", Check.townOf(WORK_ON_60).done(0), 60);
        HatOrders x = Check.townOf(WORK_ON_61);
        check.due("done(0) on 61", x.done(0), Check.NONE);
        x.steps(1);
        check.due("done(0) on 61, behind one", x.done(0), 61);
        check.due("done(1), nobody likes it", x.done(1), Check.NONE);
    }

    private static void doneWhenItWas() {
        check.promise("DONE 'of one that was DONE when that was'; NONE: 'or taken BACK'");
        HatOrders x = Check.townOf("h0;f1,3;o2;o9;");
        for (int n = 0; n < 5; n++) {
            check.due("done(0) behind " + n, x.done(0), 2);
            check.due("done(1) behind " + n, x.done(1), 11);
            x.steps(1);
        }
        x.back(1);
        check.due("done(1), back", x.done(1), Check.NONE);
        for (int n = 0; n < 5; n++) {
            x.undo();
        }
        check.due("orderHas(0, 2), not done yet", x.orderHas(0, 2), 0);
        check.due("done(0), not done yet", x.done(0), 2);
        x.give(0);
        x.back(0);
        check.due("done(0), back", x.done(0), Check.NONE);
        check.due("done(1), ahead of it", x.done(1), 10);
    }

    private static void firstBySixty() {
        check.promise("'FIRST: the ORDER of those out that is DONE first': by 60 more, as DONE");
        check.due("first() on 1", Check.townOf("h0;f1,1;o1;").first(), 0);
        check.due("first() on 60", Check.townOf(WORK_ON_60).first(), 0);
        HatOrders x = Check.townOf(WORK_ON_61);
        check.due("first() on 61", x.first(), Check.NONE);
        x.steps(1);
        check.due("first() on 61, behind one", x.first(), 0);
    }

    private static void firstOfThoseOut() {
        check.promise("FIRST 'of those out'; 'NONE'");
        check.due("first(), no order", Check.townOf("h0;f1,15;").first(), Check.NONE);
        HatOrders x = Check.townOf("h0;f1,15;o1;o1;o1;o1;");
        for (int order = 0; order < 4; order++) {
            check.due("first() behind " + order, x.first(), order);
            x.steps(1);
        }
        check.due("first(), all are done", x.first(), Check.NONE);
        HatOrders y = Check.townOf("h0;f1,15;o1;o1;");
        y.back(0);
        check.due("first(), 0 is back", y.first(), 1);
        y.back(1);
        check.due("first(), all are back", y.first(), Check.NONE);
        check.due("first() of the last", Check.townOf("h0;f1,8;o1;o1;o1;o40;").first(), 3);
    }

    private static void byNoneAndBySixty() {
        check.promise("'BY: how much a HEAD does of all ORDERS in the next d STEPS'");
        HatOrders x = Check.townOf(WORK_ON_61);
        check.due("by(5, 0)", x.by(5, 0), 0);
        check.due("by(5, 59)", x.by(5, 59), 0);
        check.due("by(5, 60)", x.by(5, 60), 1);
        HatOrders y = Check.townOf("h0;f9,15;o20;o20;o19;o40;");
        check.due("by(0, 60) of four orders", y.by(0, 60), 60);
        y.steps(20);
        check.due("by(0, 0) behind 20", y.by(0, 0), 0);
        check.due("by(0, 60) behind 20", y.by(0, 60), 60);
        y.steps(20);
        check.due("by(0, 60) behind 40", y.by(0, 60), 59);
    }

    private static void toGiveBySixty() {
        check.promise("'GIVE: to whom .. DONE soonest; behind how many STEPS; NONE': by 60, as DONE");
        dueGift("h0;f1,1;o1;", 0, 0, 1);
        dueGift("h0;f1,1;t9,0;t9,0;t9,0;t9,0;f6,0;o2;o1;o1;o1;", 0, 0, 60);
        dueGift("h0;f1,1;t9,0;t9,0;t9,0;t9,0;f7,0;o2;o1;o1;o1;", 0, Check.NONE, Check.NONE);
        dueGift("h0;f9,2;o40;o40;", 1, 0, 40);
        dueGift("h0;f9,3;o20;o40;", 1, 0, 60);
        dueGift("h0;f9,3;o21;o40;", 1, Check.NONE, Check.NONE);
        dueGift("h0;f9,0;o1;", 0, Check.NONE, Check.NONE);
    }

    private static void toGiveOfSeveral() {
        check.promise("GIVE 'of several the first'; 'now': for 0 STEPS");
        dueGift("h0;f1,0;f1,1;f1,1;f1,1;o1;", 0, 1, 1);
        dueGift("h0;f1,1;f1,1;f1,1;o1;", 0, 0, 1);
        dueGift("h0;f1,0;f1,0;f1,0;f1,0;f1,0;f1,1;o1;", 0, 5, 1);
        HatOrders x = Check.townOf("h0;f2,1;f9,0;o3;");
        x.steps(1);
        check.due("toGive(0, 1), who has it has it anew", x.toGive(0, 1), 2);
        HatOrders y = Check.townOf("h0;f9,1;f9,2;o1;o1;");
        y.steps(1);
        check.due("toGive(0, 0), done", y.toGive(0, 0), Check.STATE);
        y.back(1);
        check.due("toGive(1, 0), back", y.toGive(1, 0), Check.STATE);
        y.undo();
        check.due("toGive(1, 0), out again", y.toGive(1, 0), 1);
    }

    private static void dueGift(String text, int order, int head, int behind) {
        HatOrders x = Check.townOf(text);
        check.due("toGive(" + order + ", 0) of " + text, x.toGive(order, 0), head);
        check.due("toGive(" + order + ", 1) of " + text, x.toGive(order, 1), behind);
    }

    private static void windsOfNoneAndOfAll() {
        check.promise("'WINDS (0 to 5, bits) by which, from now on, the hat is at a HEAD behind d STEPS'");
        HatOrders x = Check.townOf("h5;w1,0;f9,0;f9,0;f9,0;f9,0;f9,0;");
        HatOrders y = Check.townOf("h5;b1,0;f9,0;f9,0;f9,0;f9,0;f9,0;");
        for (int head = 0; head < 6; head++) {
            check.due("winds(" + head + ", 0)", x.winds(head, 0), head == 0 ? 63 : 0);
            check.due("winds(" + head + ", 1)", x.winds(head, 1), 1 << head);
            check.due("winds(" + head + ", 1) of a brim", y.winds(head, 1), 1 << (6 - head) % 6);
        }
        HatOrders two = Check.townOf("h5;w1,0;f9,0;");
        check.due("winds(0, 1) of two", two.winds(0, 1), 21);
        check.due("winds(1, 1) of two", two.winds(1, 1), 42);
        check.due("winds(0, 60) of one", Check.townOf("h5;w1,0;").winds(0, 60), 63);
        check.due("winds(5, 60) of sixty", Check.townOf(SIXTY).winds(5, 60), 63);
        check.due("winds(5, 59) of sixty", Check.townOf(SIXTY).winds(5, 59), 0);
        check.due("hat(2) stays", x.hat(2), 5);
    }

    private static void seenByNumber() {
        check.promise("'SEEN by n ITEMS (1 to 16) of a ROW from i on'");
        HatOrders x = Check.townOf(TOWNS[0]);
        x.row(0, 0, 40);
        check.dueOnlyBetween("seen(0, 0, .., 0)", 1, 16, v -> x.seen(0, 0, v, 0));
        check.dueOnlyBetween("keeps(0, 0, 0, ..)", 1, 16, v -> x.keeps(0, 0, 0, v));
        check.due("seen(0, 24, 16, 0)", x.seen(0, 24, 16, 0), 0);
        check.due("seen(0, 25, 16, 0)", x.seen(0, 25, 16, 0), Check.PLACE);
        check.due("keeps(0, 0, 24, 16)", x.keeps(0, 0, 24, 16), 0);
        check.due("keeps(0, 0, 25, 16)", x.keeps(0, 0, 25, 16), Check.PLACE);
    }

    /** Who are given it keep it for 9 STEPS, and then it is at the next one: the last ITEM counts, too. */
    private static void seenByItems() {
        check.promise("'(-1: not known)'; 'HEADS to whom it can have been GIVEN now so that it goes so: how many; the least; NONE'");
        HatOrders x = Check.reader();
        Check.fill(x, 0, 2, 2, 2, 2, 2, 2, 2, 2, 2, 3, 3, 3, 3, 3, 3, 3, 3);
        dueSeen(x, 0, 16, 1, 2);
        x.set(0, 15, 2);
        dueSeen(x, 0, 15, 1, 2);
        dueSeen(x, 0, 16, 0, Check.NONE);
        x.set(0, 15, -1);
        dueSeen(x, 0, 16, 1, 2);
        Check.fill(x, 1, 1, -1, 5, 6, -2, 255);
        dueSeen(x, 1, 1, 6, 0);
        dueSeen(x, 1, 2, 1, 5);
        dueSeen(x, 1, 3, 0, Check.NONE);
        for (int i = 2; i < 5; i++) {
            check.due("seen(1, " + i + ", 1, 0), no head", x.seen(1, i, 1, 0), 0);
            check.due("seen(1, " + i + ", 1, 1), no head", x.seen(1, i, 1, 1), Check.NONE);
            check.due("keeps(0, 1, " + i + ", 1), no head", x.keeps(0, 1, i, 1), 0);
        }
        x.row(2, 0, 1);
        check.due("set(2, 0, 255)", x.set(2, 0, 255), -1);
        dueSeen(x, 2, 1, 6, 0);
        HatOrders y = Check.townOf("h0;w1,0;w1,0;w1,0;");
        Check.fill(y, 2, 0, 2);
        dueSeen(y, 2, 1, 1, 2);
    }

    private static void dueSeen(HatOrders x, int row, int n, int many, int least) {
        check.due("seen(" + row + ", 0, " + n + ", 0)", x.seen(row, 0, n, 0), many);
        check.due("seen(" + row + ", 0, " + n + ", 1)", x.seen(row, 0, n, 1), least);
    }

    private static void keepsByBits() {
        check.promise("'KEEPS (1 to 9, bits 0 to 8) of a HEAD by which it goes so'");
        HatOrders x = Check.townOf("h0;f5,0;f9,0;");
        for (int keeps = 1; keeps <= 10; keeps++) {
            int[] items = new int[keeps];
            items[keeps - 1] = 1;
            Check.fill(x, 0, 0, items);
            check.due("it goes behind " + keeps, x.keeps(0, 0, 0, keeps), keeps <= 9 ? 1 << keeps - 1 : 0);
            Check.fill(x, 1, 0, new int[keeps]);
            check.due("it does not go by " + keeps, x.keeps(0, 1, 0, keeps), 511 >> keeps << keeps);
        }
        Check.fill(x, 2, 0, -1, -1, -1, -1, -1, -1, -1, -1, -1, -1, -1, -1, -1, -1, -1, -1);
        check.due("nothing is known", x.keeps(0, 2, 0, 16), 511);
        check.due("head(0, 0) stays", x.head(0, 0), 5);
    }

    private static void keepsOfOthers() {
        check.promise("KEEPS: 'all else as it is'");
        HatOrders x = Check.townOf("h0;f2,0;f9,0;f9,0;");
        Check.fill(x, 0, 0, 0, 1, 1, 1);
        check.due("keeps(1, 0, 0, 4), two steps more", x.keeps(1, 0, 0, 4), 508);
        check.due("keeps(2, 0, 0, 4), it does not come there", x.keeps(2, 0, 0, 4), 511);
        check.due("keeps(0, 0, 0, 4), who has it", x.keeps(0, 0, 0, 4), 2);
        x.steps(1);
        Check.fill(x, 1, 0, 1);
        check.due("keeps(0, 1, 0, 1), it had it for 1", x.keeps(0, 1, 0, 1), 3);
        Check.fill(x, 1, 0, 0);
        check.due("keeps(0, 1, 0, 1), it has it yet", x.keeps(0, 1, 0, 1), 508);
        HatOrders y = Check.townOf("h0;t1,1;f9,0;o2;o1;");
        Check.fill(y, 0, 0, 0, 0, 1);
        check.due("keeps of a tall one", y.keeps(0, 0, 0, 3), 2);
        Check.fill(y, 0, 0, 0, 1);
        check.due("keeps of a tall one, less", y.keeps(0, 0, 0, 2), 1);
    }

    private static void foretoldBeyondTheLastStep() {
        check.promise("what is FORETOLD on STEP 999 goes on beyond it");
        HatOrders x = Check.townOf("h0;f1,1;f1,0;");
        for (int n = 0; n < 49; n++) {
            x.steps(20);
        }
        x.steps(19);
        x.order(30);
        check.due("steps(1)", x.steps(1), Check.FULL);
        check.due("who(60)", x.who(60), 1);
        check.due("gets(0)", x.gets(0), 1);
        check.due("done(0)", x.done(0), 999 + 60);
        check.due("first()", x.first(), 0);
        check.due("by(0, 60)", x.by(0, 60), 30);
        check.due("toGive(0, 1)", x.toGive(0, 1), 59);
        check.due("hat(3)", x.hat(3), 999);
    }

    private static void imagesByNumber() {
        check.promise("'An IMAGE (0, 1) is kept of the TOWN: 1. BAD; STATE'");
        HatOrders x = Check.townOf(TOWNS[0]);
        check.due("restore(0), none kept", x.restore(0), Check.STATE);
        check.due("restore(1), none kept", x.restore(1), Check.STATE);
        x.image(0);
        check.due("restore(1), none kept of it", x.restore(1), Check.STATE);
        check.dueOnlyBetween("image(..)", 0, 1, x::image);
        check.dueOnlyBetween("restore(..)", 0, 1, x::restore);
        check.due("image(0)", x.image(0), 1);
        check.due("restore(0)", x.restore(0), 1);
        check.due("restore(0), again", x.restore(0), 1);
    }

    private static void imagesKeepAll() {
        check.promise("'The TOWN is as an IMAGE kept it (no ACT can be undone then)'");
        HatOrders x = Check.townOf(TOWNS[1]);
        x.steps(12);
        x.wind(5);
        x.back(3);
        x.image(1);
        String kept = Check.face(x);
        check.due("count(6), image() leaves the acts", x.count(6), 14);
        x.undo();
        x.steps(20);
        x.give(1);
        check.due("restore(1)", x.restore(1), 1);
        check.due("as it was kept", Check.face(x).equals(kept));
        check.due("count(6)", x.count(6), 0);
        check.due("undo()", x.undo(), Check.STATE);
        x.steps(2);
        check.due("the image does not go on", x.restore(1), 1);
        check.due("as it was kept, again", Check.face(x).equals(kept));
        Check.feed(x, TOWNS[4]);
        x.town();
        check.due("undo() of another town", x.undo(), Check.STATE);
        x.image(0);
        x.restore(1);
        check.due("as it was kept, behind another town", Check.face(x).equals(kept));
        x.restore(0);
        check.due("count(1) of the other image", x.count(1), 1);
        check.due("count(2) of the other image", x.count(2), 0);
    }
}
