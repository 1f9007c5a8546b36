/** Promises 18 to 31. */
public final class ForetoldPromisesTest {
    /** By STEPS 0, 0, 1, 3, 0, 0, 1, 3 ..; ORDER 0 is DONE on 2, ORDER 1 on 3. */
    private static final String FIVE = "h2;f2,1;s1,2;t1,3;w1,0;b1,4;o2;o1;";
    /** HEAD 5 gets it behind 13 four times and 8 STEPS: 60. */
    private static final String SIXTY = "h0;t9,0;t9,0;t9,0;t9,0;f8,0;f1,0;o1;o1;o1;o1;";
    private static final String SIXTY_ONE = "h0;t9,0;t9,0;t9,0;t9,0;f9,0;f1,0;o1;o1;o1;o1;";
    /** HEAD 1 works once in 10 STEPS: on 10, 20 .. 60. */
    private static final String TENTH = "h0;f9,0;f1,1;";
    /** Given to 0: 0 1 2 0; to 1: 2 0 0 1; to 2: 0 0 1 2; to 3: 3 3 0 0. */
    private static final String FOUR = "h0;f2,0;f1,0;s1,0;f3,0;";
    private static final Check check = new Check();

    public static void main(String[] args) {
        who();
        gets();
        ever();
        round();
        done();
        first();
        by();
        toGive();
        toGiveRefused();
        winds();
        lot();
        seen();
        seenRefused();
        keeps();
        keepsRefused();
        image();
        restore();
        nothingChanges();
        check.finish("ForetoldPromisesTest");
    }

    private static void who() {
        check.promise("promise 18, who");
        check.due("who(61), no town", new HatOrders().who(61), Check.STATE);
        HatOrders x = Check.townOf(FIVE);
        int[] whos = {0, 0, 1, 3, 0, 0, 1, 3, 0};
        for (int d = 0; d < whos.length; d++) {
            check.due("who(" + d + ")", x.who(d), whos[d]);
        }
        check.due("who(58)", x.who(58), 1);
        check.due("who(59)", x.who(59), 3);
        check.due("who(60)", x.who(60), 0);
        check.due("who(61)", x.who(61), Check.BAD);
        check.due("who(-1)", x.who(-1), Check.BAD);
        x.steps(1);
        check.due("who(1) behind a step", x.who(1), 1);
        HatOrders y = Check.townOf(SIXTY);
        check.due("who(59) of sixty", y.who(59), 4);
        check.due("who(60) of sixty", y.who(60), 5);
    }

    private static void gets() {
        check.promise("promise 19, gets");
        check.due("gets(0), no town", new HatOrders().gets(0), Check.BAD);
        HatOrders x = Check.townOf(FIVE);
        int[] behind = {0, 2, Check.NONE, 3, Check.NONE};
        for (int h = 0; h < 5; h++) {
            check.due("gets(" + h + ")", x.gets(h), behind[h]);
        }
        check.due("gets(5)", x.gets(5), Check.BAD);
        check.due("gets(-1)", x.gets(-1), Check.BAD);
        x.steps(2);
        check.due("gets(1) behind two", x.gets(1), 0);
        check.due("gets(0) behind two", x.gets(0), 2);
        check.due("gets(5) of sixty", Check.townOf(SIXTY).gets(5), 60);
        check.due("gets(5) of sixty-one", Check.townOf(SIXTY_ONE).gets(5), Check.NONE);
    }

    private static void ever() {
        check.promise("promise 20, ever");
        check.due("ever(-1), no town", new HatOrders().ever(-1), Check.STATE);
        HatOrders x = Check.townOf(FIVE);
        check.due("ever(0)", x.ever(0), 1);
        check.due("ever(1)", x.ever(1), 1);
        check.due("ever(2)", x.ever(2), 3);
        check.due("ever(3)", x.ever(3), 11);
        check.due("ever(60)", x.ever(60), 11);
        check.due("ever(61)", x.ever(61), Check.BAD);
        check.due("ever(-1)", x.ever(-1), Check.BAD);
        x.give(4);
        check.due("ever(0) of a brim", x.ever(0), 16);
        check.due("ever(1) of a brim", x.ever(1), 20);
        HatOrders y = Check.townOf(SIXTY);
        check.due("ever(59) of sixty", y.ever(59), 31);
        check.due("ever(60) of sixty", y.ever(60), 63);
    }

    private static void round() {
        check.promise("promise 21, round");
        check.due("round(2), no town", new HatOrders().round(2), Check.STATE);
        HatOrders x = Check.townOf(FIVE);
        check.due("round(2)", x.round(2), Check.BAD);
        check.due("round(-1)", x.round(-1), Check.BAD);
        dueRound(FIVE, 7, 3);
        dueRound("h0;f1,0;", 1, 0);
        dueRound("h0;f3,0;", 3, 0);
        dueRound("h0;w1,0;f9,0;", 1, 0);
        dueRound("h0;f1,0;f1,0;o1;", 2, 0);
        dueRound("h0;f2,0;f1,0;f1,0;f1,0;f1,0;f1,0;", 7, 0);
        dueRound("h0;f1,1;o40;", 41, 40);
        dueRound("h0;f1,1;o40;o40;", 41, 40);
        dueRound("h0;f1,3;o40;o19;", 60, 59);
        dueRound("h0;f1,3;o40;o20;", Check.NONE, Check.NONE);
        dueRound("h0;f9,15;o40;o40;o40;o40;", Check.NONE, Check.NONE);
        x.steps(3);
        check.due("round(0) behind three", x.round(0), 4);
        check.due("round(1) behind three", x.round(1), 0);
        HatOrders y = Check.townOf("h0;f1,1;o40;");
        y.back(0);
        check.due("round(0), the order is back", y.round(0), 1);
    }

    private static void dueRound(String text, int behind, int fewer) {
        HatOrders x = Check.townOf(text);
        check.due("round(0) of " + text, x.round(0), behind);
        check.due("round(1) of " + text, x.round(1), fewer);
    }

    private static void done() {
        check.promise("promise 22, done");
        check.due("done(0), no town", new HatOrders().done(0), Check.BAD);
        HatOrders x = Check.townOf(FIVE);
        for (int n = 0; n < 6; n++) {
            check.due("done(0) on " + n, x.done(0), 2);
            check.due("done(1) on " + n, x.done(1), 3);
            x.steps(1);
        }
        x.undo();
        x.undo();
        x.undo();
        x.undo();
        check.due("done(1), undone", x.done(1), 3);
        x.back(1);
        check.due("done(1), back", x.done(1), Check.NONE);
        x.undo();
        check.due("done(1), back undone", x.done(1), 3);
        check.due("done(2)", x.done(2), Check.BAD);
        check.due("done(-1)", x.done(-1), Check.BAD);
        HatOrders y = Check.townOf("h0;f1,3;o40;o20;");
        check.due("done(0) of 40", y.done(0), 40);
        check.due("done(1) by 60", y.done(1), 60);
        HatOrders z = Check.townOf("h0;f1,3;o40;o21;");
        check.due("done(1) by 61", z.done(1), Check.NONE);
        z.steps(1);
        check.due("done(1) by 60 more", z.done(1), 61);
        z.give(0);
        check.due("done(0) yet", z.done(0), 40);
    }

    private static void first() {
        check.promise("promise 23, first");
        check.due("first(), no town", new HatOrders().first(), Check.STATE);
        HatOrders x = Check.townOf(FIVE);
        check.due("first()", x.first(), 0);
        x.steps(2);
        check.due("first(), 0 is done", x.first(), 1);
        x.steps(1);
        check.due("first(), all done", x.first(), Check.NONE);
        check.due("first(), no order", Check.townOf("h0;f1,1;").first(), Check.NONE);
        check.due("first(), not liked", Check.townOf("h0;f1,0;o1;").first(), Check.NONE);
        check.due("first() of the later", Check.townOf("h0;f1,2;o1;o2;").first(), 1);
        check.due("first() by 60", Check.townOf(TENTH + "o6;").first(), 0);
        check.due("first() by 70", Check.townOf(TENTH + "o7;").first(), Check.NONE);
        HatOrders y = Check.townOf("h0;f1,3;o1;o2;");
        y.back(0);
        check.due("first(), 0 is back", y.first(), 1);
    }

    private static void by() {
        check.promise("promise 24, by");
        check.due("by(0, 0), no town", new HatOrders().by(0, 0), Check.BAD);
        HatOrders x = Check.townOf(FIVE);
        check.due("by(0, 0)", x.by(0, 0), 0);
        check.due("by(0, 1)", x.by(0, 1), 1);
        check.due("by(0, 2)", x.by(0, 2), 2);
        check.due("by(0, 60)", x.by(0, 60), 2);
        check.due("by(1, 2)", x.by(1, 2), 0);
        check.due("by(1, 3)", x.by(1, 3), 1);
        check.due("by(2, 60)", x.by(2, 60), 0);
        check.due("by(5, 0)", x.by(5, 0), Check.BAD);
        check.due("by(-1, 0)", x.by(-1, 0), Check.BAD);
        check.due("by(0, 61)", x.by(0, 61), Check.BAD);
        check.due("by(0, -1)", x.by(0, -1), Check.BAD);
        x.steps(1);
        check.due("by(0, 60) behind one", x.by(0, 60), 1);
        HatOrders y = Check.townOf(TENTH + "o40;");
        check.due("by(1, 59)", y.by(1, 59), 5);
        check.due("by(1, 60)", y.by(1, 60), 6);
        check.due("by(0, 60) of all orders", Check.townOf("h0;f1,3;o1;o7;").by(0, 60), 8);
    }

    private static void toGive() {
        check.promise("promise 25, toGive");
        dueGift(FIVE, 0, 0, 2);
        dueGift(FIVE, 1, 1, 1);
        dueGift("h0;f1,0;f1,1;f1,1;o1;", 0, 1, 1);
        dueGift("h0;f1,1;f1,0;f2,1;o2;", 0, 2, 2);
        dueGift("h0;f1,0;f1,1;f2,1;o2;", 0, 1, 2);
        dueGift("h0;f1,0;o1;", 0, Check.NONE, Check.NONE);
        dueGift(TENTH + "o6;", 0, 1, 51);
        dueGift(TENTH + "o7;", 0, Check.NONE, Check.NONE);
        dueGift("h0;f1,1;t9,0;t9,0;t9,0;t9,0;f6,0;o2;o1;o1;o1;", 0, 0, 60);
        dueGift("h0;f1,1;t9,0;t9,0;t9,0;t9,0;f7,0;o2;o1;o1;o1;", 0, Check.NONE, Check.NONE);
        HatOrders x = Check.townOf("h0;f2,1;f9,0;o3;");
        x.steps(1);
        check.due("toGive(0, 0), who has it", x.toGive(0, 0), 0);
        check.due("toGive(0, 1), it has it for 0 steps then", x.toGive(0, 1), 2);
        check.due("hat(1) stays", x.hat(1), 1);
    }

    private static void dueGift(String text, int order, int head, int behind) {
        HatOrders x = Check.townOf(text);
        check.due("toGive(" + order + ", 0) of " + text, x.toGive(order, 0), head);
        check.due("toGive(" + order + ", 1) of " + text, x.toGive(order, 1), behind);
    }

    private static void toGiveRefused() {
        check.due("toGive(0, 0), no town", new HatOrders().toGive(0, 0), Check.BAD);
        HatOrders x = Check.townOf(FIVE);
        check.due("toGive(2, 0)", x.toGive(2, 0), Check.BAD);
        check.due("toGive(-1, 0)", x.toGive(-1, 0), Check.BAD);
        check.due("toGive(0, 2)", x.toGive(0, 2), Check.BAD);
        check.due("toGive(0, -1)", x.toGive(0, -1), Check.BAD);
        x.steps(2);
        x.back(1);
        check.due("toGive(0, 0), done", x.toGive(0, 0), Check.STATE);
        check.due("toGive(1, 1), back", x.toGive(1, 1), Check.STATE);
        check.due("toGive(0, 2), done", x.toGive(0, 2), Check.BAD);
    }

    private static void winds() {
        check.promise("promise 26, winds");
        check.due("winds(0, 0), no town", new HatOrders().winds(0, 0), Check.BAD);
        HatOrders x = Check.townOf("h1;w1,0;f9,0;f9,0;f9,0;");
        int[] winds = {17, 34, 4, 8};
        for (int h = 0; h < 4; h++) {
            check.due("winds(" + h + ", 1)", x.winds(h, 1), winds[h]);
            check.due("winds(" + h + ", 0)", x.winds(h, 0), h == 0 ? 63 : 0);
        }
        check.due("hat(2) stays", x.hat(2), 1);
        check.due("winds(4, 1)", x.winds(4, 1), Check.BAD);
        check.due("winds(-1, 1)", x.winds(-1, 1), Check.BAD);
        check.due("winds(0, 61)", x.winds(0, 61), Check.BAD);
        check.due("winds(0, -1)", x.winds(0, -1), Check.BAD);
        check.due("winds(5, 60) of sixty", Check.townOf(SIXTY).winds(5, 60), 63);
        HatOrders y = Check.townOf("h1;b1,0;f9,0;f9,0;f9,0;");
        check.due("winds(3, 1) of a brim", y.winds(3, 1), 34);
        check.due("winds(1, 1) of a brim", y.winds(1, 1), 8);
    }

    private static void lot() {
        check.promise("promise 27, lot");
        check.due("lot(0, 0, 0), no town", new HatOrders().lot(0, 0, 0), Check.BAD);
        dueLot("h1;w1,0;f9,0;f9,0;f9,0;", 1, 0, 0, 1);
        dueLot("h1;w1,0;f9,0;f9,0;f9,0;", 2, 1, 1, 6);
        dueLot("h1;w1,0;f9,0;f9,0;f9,0;", 0, 1, 1, 3);
        dueLot("h1;w1,0;f9,0;", 1, 1, 1, 2);
        dueLot("h1;w1,0;f1,0;f1,0;b1,0;b1,0;b1,0;", 0, 2, 2, 3);
        dueLot("h1;w1,0;f1,0;b1,0;b1,0;b1,0;b1,0;", 0, 2, 5, 6);
        dueLot("h1;w1,0;b1,0;b1,0;b1,0;b1,0;b1,0;", 0, 2, 1, 1);
        HatOrders x = Check.townOf(FIVE);
        check.due("lot(5, 0, 0)", x.lot(5, 0, 0), Check.BAD);
        check.due("lot(-1, 0, 0)", x.lot(-1, 0, 0), Check.BAD);
        check.due("lot(0, 61, 0)", x.lot(0, 61, 0), Check.BAD);
        check.due("lot(0, -1, 0)", x.lot(0, -1, 0), Check.BAD);
        check.due("lot(0, 0, 2)", x.lot(0, 0, 2), Check.BAD);
        check.due("lot(0, 0, -1)", x.lot(0, 0, -1), Check.BAD);
    }

    private static void dueLot(String text, int head, int d, int above, int below) {
        HatOrders x = Check.townOf(text);
        check.due("lot(" + head + ", " + d + ", 0) of " + text, x.lot(head, d, 0), above);
        check.due("lot(" + head + ", " + d + ", 1) of " + text, x.lot(head, d, 1), below);
    }

    private static void seen() {
        check.promise("promise 28, seen");
        HatOrders x = Check.townOf(FOUR);
        dueSeen(x, 2, 0, 0);
        dueSeen(x, 1, 2, 0, 0);
        dueSeen(x, 1, 2, 0, 0, 1, 2);
        dueSeen(x, 4, 0, -1);
        dueSeen(x, 2, 1, -1, -1, 0);
        dueSeen(x, 1, 3, 3, 3, 0);
        dueSeen(x, 0, Check.NONE, 4);
        dueSeen(x, 0, Check.NONE, -2);
        dueSeen(x, 0, Check.NONE, 0, 0, 0);
        dueSeen(x, 4, 0, -1, -1, -1, -1, -1, -1, -1, -1, -1, -1, -1, -1, -1, -1, -1, -1);
        x.steps(1);
        dueSeen(x, 2, 0, 0);
        Check.fill(x, 5, 0, 9, 9, 0, 0);
        check.due("seen(5, 2, 2, 1)", x.seen(5, 2, 2, 1), 2);
        check.due("seen(5, 3, 1, 0)", x.seen(5, 3, 1, 0), 2);
        HatOrders y = Check.townOf("h0;t1,0;f1,0;o1;");
        dueSeen(y, 2, 0, 0);
        dueSeen(y, 1, 0, 0, 1);
        y.back(0);
        dueSeen(y, 1, 0, 1);
    }

    private static void dueSeen(HatOrders x, int many, int least, int... items) {
        Check.fill(x, 6, 1, items);
        String told = java.util.Arrays.toString(items);
        check.due("how many by " + told, x.seen(6, 0, items.length, 0), many);
        check.due("the least by " + told, x.seen(6, 0, items.length, 1), least);
        check.due("status() by " + told, x.status(), 0);
    }

    private static void seenRefused() {
        check.due("seen(8, 0, 0, 2), no town", new HatOrders().seen(8, 0, 0, 2), Check.STATE);
        HatOrders x = Check.townOf(FOUR);
        x.row(0, 2, 16);
        check.due("seen(8, 0, 1, 0)", x.seen(8, 0, 1, 0), Check.BAD);
        check.due("seen(-1, 0, 1, 0)", x.seen(-1, 0, 1, 0), Check.BAD);
        check.due("seen(0, 0, 0, 0)", x.seen(0, 0, 0, 0), Check.BAD);
        check.due("seen(0, 0, 17, 0)", x.seen(0, 0, 17, 0), Check.BAD);
        check.due("seen(0, 0, 1, 2)", x.seen(0, 0, 1, 2), Check.BAD);
        check.due("seen(0, 0, 1, -1)", x.seen(0, 0, 1, -1), Check.BAD);
        check.due("seen(1, 0, 0, 0)", x.seen(1, 0, 0, 0), Check.BAD);
        check.due("status()", x.status(), 0);
        check.due("seen(1, -1, 1, 0)", x.seen(1, -1, 1, 0), Check.NULL);
        check.due("status()", x.status(), 1);
        check.due("seen(0, -1, 1, 0)", x.seen(0, -1, 1, 0), Check.PLACE);
        check.due("status()", x.status(), 2);
        check.due("seen(0, 1, 16, 0)", x.seen(0, 1, 16, 0), Check.PLACE);
        check.due("seen(0, 16, 1, 1)", x.seen(0, 16, 1, 1), Check.PLACE);
        check.due("seen(0, MAX, 16, 1)", x.seen(0, Integer.MAX_VALUE, 16, 1), Check.PLACE);
        check.due("seen(0, 0, 16, 0)", x.seen(0, 0, 16, 0), 0);
        check.due("status()", x.status(), 0);
    }

    private static void keeps() {
        check.promise("promise 29, keeps");
        HatOrders x = Check.townOf(FOUR);
        dueKeeps(x, 0, 510, 0);
        dueKeeps(x, 0, 4, 0, 0, 1);
        dueKeeps(x, 0, 511, -1);
        dueKeeps(x, 0, 1, 1);
        dueKeeps(x, 0, 0, 3);
        dueKeeps(x, 0, 256, 0, 0, 0, 0, 0, 0, 0, 0, 1);
        dueKeeps(x, 1, 510, 0, 1, 1);
        dueKeeps(x, 3, 511, 0, 1, 2, 0);
        dueKeeps(x, 3, 0, 1);
        x.steps(1);
        dueKeeps(x, 0, 508, 0);
        dueKeeps(x, 0, 3, 1);
        check.due("head(0, 0) stays", x.head(0, 0), 2);
        HatOrders y = Check.townOf("h0;t1,0;f9,0;o1;o1;");
        dueKeeps(y, 0, 1, 0, 0, 1);
        dueKeeps(y, 0, 2, 0, 0, 0, 1);
        Check.fill(y, 2, 0, 1, 1, 0, 0, 1);
        check.due("keeps(0, 2, 2, 3)", y.keeps(0, 2, 2, 3), 1);
    }

    private static void dueKeeps(HatOrders x, int head, int keeps, int... items) {
        Check.fill(x, 6, 2, items);
        String told = java.util.Arrays.toString(items);
        check.due("keeps of " + head + " by " + told, x.keeps(head, 6, 0, items.length), keeps);
        check.due("status() by " + told, x.status(), 0);
    }

    private static void keepsRefused() {
        check.due("keeps(0, 0, 0, 1), no town", new HatOrders().keeps(0, 0, 0, 1), Check.BAD);
        HatOrders x = Check.townOf(FOUR);
        x.row(0, 2, 16);
        check.due("keeps(4, 0, 0, 1)", x.keeps(4, 0, 0, 1), Check.BAD);
        check.due("keeps(-1, 0, 0, 1)", x.keeps(-1, 0, 0, 1), Check.BAD);
        check.due("keeps(0, 8, 0, 1)", x.keeps(0, 8, 0, 1), Check.BAD);
        check.due("keeps(0, -1, 0, 1)", x.keeps(0, -1, 0, 1), Check.BAD);
        check.due("keeps(0, 0, 0, 0)", x.keeps(0, 0, 0, 0), Check.BAD);
        check.due("keeps(0, 0, 0, 17)", x.keeps(0, 0, 0, 17), Check.BAD);
        check.due("keeps(0, 1, 0, 17)", x.keeps(0, 1, 0, 17), Check.BAD);
        check.due("keeps(0, 1, -1, 1)", x.keeps(0, 1, -1, 1), Check.NULL);
        check.due("status()", x.status(), 1);
        check.due("keeps(0, 0, -1, 1)", x.keeps(0, 0, -1, 1), Check.PLACE);
        check.due("status()", x.status(), 2);
        check.due("keeps(0, 0, 1, 16)", x.keeps(0, 0, 1, 16), Check.PLACE);
        check.due("keeps(0, 0, MAX, 16)", x.keeps(0, 0, Integer.MAX_VALUE, 16), Check.PLACE);
        check.due("keeps(0, 0, 0, 16)", x.keeps(0, 0, 0, 16), 0);
        check.due("status()", x.status(), 0);
    }

    private static void image() {
        check.promise("promise 30, image");
        HatOrders none = new HatOrders();
        check.due("image(0), no town", none.image(0), Check.STATE);
        check.due("image(-1), no town", none.image(-1), Check.BAD);
        check.due("restore(0), none kept", none.restore(0), Check.STATE);
        HatOrders x = Check.townOf(FIVE);
        check.due("image(2)", x.image(2), Check.BAD);
        check.due("image(-1)", x.image(-1), Check.BAD);
        x.steps(1);
        String kept = Check.face(x);
        check.due("image(1)", x.image(1), 1);
        check.due("count(6), acts stay", x.count(6), 1);
        check.due("all stays", Check.face(x).equals(kept));
        check.due("restore(0), the other", x.restore(0), Check.STATE);
        x.steps(1);
        String later = Check.face(x);
        check.due("image(0)", x.image(0), 1);
        check.due("restore(1)", x.restore(1), 1);
        check.due("as 1 was kept", Check.face(x).equals(kept));
        x.restore(0);
        check.due("image(1) in place", x.image(1), 1);
        x.steps(1);
        x.restore(1);
        check.due("as 1 was kept anew", Check.face(x).equals(later));
    }

    private static void restore() {
        check.promise("promise 31, restore");
        HatOrders x = Check.townOf(FIVE);
        x.steps(1);
        x.image(0);
        String kept = Check.face(x);
        x.steps(9);
        x.order(5);
        x.back(2);
        x.wind(4);
        x.give(3);
        check.due("restore(2)", x.restore(2), Check.BAD);
        check.due("restore(-1)", x.restore(-1), Check.BAD);
        check.due("restore(1)", x.restore(1), Check.STATE);
        check.due("count(6), acts stay", x.count(6), 14);
        check.due("restore(0)", x.restore(0), 1);
        check.due("as it was kept", Check.face(x).equals(kept));
        check.due("undo()", x.undo(), Check.STATE);
        check.due("count(6)", x.count(6), 0);
        x.steps(5);
        check.due("undo() behind it", x.undo(), 4);
        Check.feed(x, "h0;f1,0;");
        x.town();
        x.row(0, 0, 3);
        x.feed(104);
        check.due("restore(0), of another town", x.restore(0), 1);
        check.due("as it was kept", Check.face(x).equals(kept));
        check.due("rows stay", x.count(0), 1);
        check.due("the tape stays", x.count(7), 1);
    }

    private static void nothingChanges() {
        check.promise("promises 18 to 29, nothing changes");
        HatOrders x = Check.townOf(FIVE);
        x.steps(1);
        Check.fill(x, 0, 0, -1, 1, 3);
        String before = Check.face(x);
        x.who(60);
        x.gets(4);
        x.ever(60);
        x.round(0);
        x.done(1);
        x.first();
        x.by(0, 60);
        x.toGive(0, 0);
        x.winds(0, 60);
        x.lot(0, 60, 0);
        x.seen(0, 0, 3, 0);
        x.keeps(0, 0, 0, 3);
        check.due("all stays", Check.face(x).equals(before));
        check.due("count(6)", x.count(6), 1);
    }
}
