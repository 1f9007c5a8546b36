/** THE TAPE and the texts, sentence by sentence: where a TOKEN, a NUMBER, the tape, the table is full. */
public final class TextEdgesTest {
    private static final String SORTS = "fstwb";
    private static final String SIX_HEADS = "h0;f1,0;s1,0;t1,0;w1,0;b1,0;f1,0;";
    private static final String FOUR_ORDERS = "o1;o1;o1;o1;";
    /** As long as a text that is read can be. */
    private static final String LONGEST = "h05;f09,15;s09,15;t09,15;w09,15;b09,15;f09,15;o40;o40;o40;o40;";
    private static final Check check = new Check();

    public static void main(String[] args) {
        lettersByNumber();
        tapeIsFull();
        tapeIsEmptyThen();
        windInTexts();
        keepsInTexts();
        likesInTexts();
        needsInTexts();
        figures();
        headsAtTheTable();
        ordersTold();
        sorts();
        everyByteInEveryPlace();
        endsInEveryPlace();
        theFirstFault();
        theLeastFault();
        latestFault();
        townAtFirst();
        check.finish("TextEdgesTest");
    }

    /** Answers how many HEADS, or the place and the number of the FAULT as place * 10 + number, less 1000. */
    private static int read(String text) {
        HatOrders x = new HatOrders();
        Check.feed(x, text);
        int answer = x.town();
        boolean isFault = answer <= Check.FAULT;
        check.due("fault() of '" + text + "'", (x.fault() == 0) == !isFault);
        check.due("count(1) of '" + text + "'", x.count(1), isFault ? 0 : answer);
        check.due("count(7) of '" + text + "'", x.count(7), 0);
        return isFault ? (Check.FAULT - answer) * 10 + x.fault() - 1000 : answer;
    }

    private static void dueHeads(String text, int heads) {
        check.due("heads of '" + text + "'", read(text), heads);
    }

    private static void dueFault(String text, int place, int number) {
        check.due("place and fault (less 1000) of '" + text + "'", read(text), place * 10 + number - 1000);
    }

    private static void lettersByNumber() {
        check.promise("'A byte (0 to 255)'");
        check.dueOnlyBetween("feed(..)", 0, 255, v -> new HatOrders().feed(v));
    }

    private static void tapeIsFull() {
        check.promise("'THE TAPE has at most 120 bytes'");
        HatOrders x = new HatOrders();
        for (int n = 1; n <= 120; n++) {
            check.due("feed(104), byte " + n, x.feed(104), n);
            check.due("count(7), byte " + n, x.count(7), n);
        }
        check.due("feed(104), byte 121", x.feed(104), Check.FULL);
        check.due("count(7), byte 121", x.count(7), 120);
        check.due("feed(104) again", x.feed(104), Check.FULL);
        dueHeads(LONGEST, 6);
        check.due("the longest text", LONGEST.length(), 62);
        StringBuilder full = new StringBuilder(LONGEST);
        while (full.length() < 120) {
            full.append(';');
        }
        dueFault(full.toString(), 62, 1);
    }

    private static void tapeIsEmptyThen() {
        check.promise("'The tape, empty then, is read'");
        HatOrders x = new HatOrders();
        Check.feed(x, "h0;");
        check.due("town() of half a text", x.town(), Check.FAULT - 3);
        Check.feed(x, "f1,0;");
        check.due("town() of the other half", x.town(), Check.FAULT);
        for (int n = 0; n < 120; n++) {
            x.feed(59);
        }
        check.due("town() of a full tape", x.town(), Check.FAULT);
        check.due("feed(104) behind a full tape", x.feed(104), 1);
        Check.feed(x, "0;f1,0;");
        check.due("town() behind a full tape", x.town(), 1);
        check.due("town() of an empty tape", x.town(), Check.FAULT);
        check.due("count(1), all stays", x.count(1), 1);
    }

    private static void windInTexts() {
        check.promise("'law: h WIND ; (0 to 5)'");
        for (int v = 0; v <= 99; v++) {
            String text = "h" + v + ";f1,0;";
            if (v > 5) {
                dueFault(text, 1, 2);
                continue;
            }
            dueHeads(text, 1);
            check.due("hat(2) of " + text, Check.townOf(text).hat(2), v);
        }
    }

    private static void keepsInTexts() {
        check.promise("'KEEPS .. 1 to 9'");
        for (int v = 0; v <= 99; v++) {
            String text = "h0;f" + v + ",0;";
            if (v < 1 || v > 9) {
                dueFault(text, 4, 2);
                continue;
            }
            dueHeads(text, 1);
            check.due("head(0, 0) of " + text, Check.townOf(text).head(0, 0), v);
        }
    }

    private static void likesInTexts() {
        check.promise("'a set of ORDERS 0 to 3, 0 to 15'");
        for (int v = 0; v <= 99; v++) {
            String text = "h0;f1," + v + ";";
            if (v > 15) {
                dueFault(text, 6, 2);
                continue;
            }
            dueHeads(text, 1);
            check.due("head(0, 1) of " + text, Check.townOf(text).head(0, 1), v);
        }
    }

    private static void needsInTexts() {
        check.promise("'order: o NEEDS ; (1 to 40 ..)'");
        for (int v = 0; v <= 99; v++) {
            String text = "h0;f1,0;o" + v + ";";
            if (v < 1 || v > 40) {
                dueFault(text, 9, 2);
                continue;
            }
            dueHeads(text, 1);
            HatOrders x = Check.townOf(text);
            check.due("orderHas(0, 0) of " + text, x.orderHas(0, 0), v);
            check.due("orderHas(0, 1) of " + text, x.orderHas(0, 1), v);
            check.due("orderHas(0, 2) of " + text, x.orderHas(0, 2), 0);
        }
    }

    private static void figures() {
        check.promise("'NUMBERS (figures, 2 at most)'; 'a run of three figures, at its first'");
        dueHeads("h00;f01,00;o01;", 1);
        dueFault("h000;f1,0;", 1, 1);
        dueFault("h0000;f1,0;", 1, 1);
        dueFault("h;f1,0;", 1, 1);
        dueFault("h0;f001,0;", 4, 1);
        dueFault("h0;f,0;", 4, 1);
        dueFault("h0;f1,000;", 6, 1);
        dueFault("h0;f1,;", 6, 1);
        dueFault("h0;f1,0;o001;", 9, 1);
        dueFault("h0;f1,0;o;", 9, 1);
        dueFault("h0;000", 3, 1);
        dueFault("000", 0, 1);
        dueFault("h100;", 1, 1);
        StringBuilder run = new StringBuilder("h");
        while (run.length() < 120) {
            run.append('0');
        }
        dueFault(run.toString(), 1, 1);
        dueFault("h/;", 1, 1);
        dueFault("h:;", 1, 1);
        dueFault("h0/;", 2, 1);
        dueFault("h0:;", 2, 1);
    }

    private static void headsAtTheTable() {
        check.promise("'head { head }'; 'HEADS 0 .. 5, 6 at most'; '3 a head .. more than there is room for'");
        StringBuilder text = new StringBuilder("h0;");
        dueFault(text.toString(), 3, 1);
        for (int heads = 1; heads <= 6; heads++) {
            text.append("f1,0;");
            dueHeads(text.toString(), heads);
            dueHeads(text + "o1;", heads);
        }
        for (char sort : SORTS.toCharArray()) {
            dueFault(text.toString() + sort, 33, 3);
            dueFault(text.toString() + sort + "1,0;", 33, 3);
            dueFault(text.toString() + sort + "x", 33, 3);
            dueFault(text + "o1;" + sort, 36, 1);
        }
    }

    private static void ordersTold() {
        check.promise("'{ order }'; 'ORDERS 0 .. 3, 4 at most'; '3 .. an order more than there is room for'");
        StringBuilder text = new StringBuilder("h0;f1,0;");
        for (int orders = 0; orders <= 4; orders++) {
            dueHeads(text.toString(), 1);
            check.due("count(2) of " + text, Check.townOf(text.toString()).count(2), orders);
            text.append("o1;");
        }
        dueFault(text.toString(), 20, 3);
        dueFault("h0;f1,0;" + FOUR_ORDERS + "o", 20, 3);
        dueFault("h0;f1,0;" + FOUR_ORDERS + "o0;", 20, 3);
        dueFault("h0;f1,0;" + FOUR_ORDERS + "f", 20, 1);
        dueHeads(SIX_HEADS + FOUR_ORDERS, 6);
        dueFault(SIX_HEADS + FOUR_ORDERS + "o1;", 45, 3);
        dueFault(SIX_HEADS + FOUR_ORDERS + "f1,0;", 45, 1);
    }

    private static void sorts() {
        check.promise("'SORT: f a firm one, s a sneezer, t a tall one, w a windy one, b a brim'");
        for (char letter = 'a'; letter <= 'z'; letter++) {
            String text = "h0;" + letter + "1,0;";
            int kind = SORTS.indexOf(letter) + 1;
            if (kind == 0) {
                dueFault(text, 3, 1);
                continue;
            }
            dueHeads(text, 1);
            check.due("kind(0) of " + text, Check.townOf(text).kind(0), kind);
        }
    }

    /** In each place of a text all bytes but those that keep it a text, or make another NUMBER, are FAULT 1 there. */
    private static void everyByteInEveryPlace() {
        check.promise("'nothing else, no blanks'; '1 it cannot stand there, or is none'");
        String text = "h0;f1,0;o1;";
        String[] fits = {"h", "012345", ";", SORTS, "123456789", ",", "0123456789", ";", "o" + SORTS, "123456789", ";"};
        for (int at = 0; at < text.length(); at++) {
            for (int letter = 0; letter <= 255; letter++) {
                boolean isFigure = letter >= '0' && letter <= '9';
                if (isFigure && at != 0 && at != 3 && at != 8 || fits[at].indexOf(letter) >= 0) {
                    continue;
                }
                String spoilt = text.substring(0, at) + (char) letter + text.substring(at + 1);
                dueFault(spoilt, at, 1);
            }
        }
    }

    private static void endsInEveryPlace() {
        check.promise("'the end: how many bytes there are'");
        String text = SIX_HEADS + FOUR_ORDERS;
        for (int length = 0; length < text.length(); length++) {
            String cut = text.substring(0, length);
            boolean isWhole = length >= 8 && cut.endsWith(";");
            if (isWhole) {
                dueHeads(cut, Math.min(6, (length - 3) / 5));
            } else {
                dueFault(cut, length, 1);
            }
        }
    }

    private static void theFirstFault() {
        check.promise("'FAULTS, the first TOKEN that has one (its first byte)'");
        dueFault("h6;f0,16;x", 1, 2);
        dueFault("h0;f0,16;x", 4, 2);
        dueFault("h0;f1,16;x", 6, 2);
        dueFault("h0;f1,15;x", 9, 1);
        dueFault("h6,", 1, 2);
        dueFault("h5,", 2, 1);
        dueFault("h99999f0", 1, 1);
        dueFault("h55;", 1, 2);
        dueFault("h0;f1,15;o41o", 10, 2);
        dueFault("h0;f1,15;o40o", 12, 1);
    }

    /** A TOKEN that cannot stand there is that, whatever else it is. */
    private static void theLeastFault() {
        check.promise("'of one TOKEN the least'");
        dueFault("99", 0, 1);
        dueFault("h0;99", 3, 1);
        dueFault("h0;f1,0;99", 8, 1);
        dueFault("h0;f1,0;" + FOUR_ORDERS + "99", 20, 1);
        dueFault(SIX_HEADS + "o1;f1,0;", 36, 1);
        dueFault(SIX_HEADS + FOUR_ORDERS + "b", 45, 1);
        dueFault(SIX_HEADS + "ff", 33, 3);
    }

    private static void latestFault() {
        check.promise("'The number of the latest FAULT; 0 before one'");
        HatOrders x = new HatOrders();
        check.due("fault(), none read", x.fault(), 0);
        Check.feed(x, "h0;f1,0;");
        x.town();
        check.due("fault() behind a town", x.fault(), 0);
        String[] texts = {"h6;", SIX_HEADS + "f", "x", "h6;"};
        int[] numbers = {2, 3, 1, 2};
        for (int i = 0; i < texts.length; i++) {
            Check.feed(x, texts[i]);
            x.town();
            check.due("fault() of " + texts[i], x.fault(), numbers[i]);
        }
        Check.feed(x, "h0;f1,0;");
        x.town();
        check.due("fault() behind another town", x.fault(), 2);
    }

    private static void townAtFirst() {
        check.promise("'STEP 0, HEAD 0 has the hat .. for 0 STEPS; nothing is done of ORDERS; no ACT can be undone'");
        HatOrders x = Check.townOf("h3;f9,3;f9,3;o2;o9;");
        x.steps(4);
        x.back(1);
        x.give(1);
        x.order(5);
        x.steps(2);
        Check.feed(x, "h4;w2,3;f9,3;o7;o9;o8;");
        check.due("town()", x.town(), 2);
        int[] hat = {0, 0, 4, 0};
        for (int what = 0; what < 4; what++) {
            check.due("hat(" + what + ")", x.hat(what), hat[what]);
        }
        int[] needs = {7, 9, 8};
        for (int order = 0; order < 3; order++) {
            check.due("orderHas(" + order + ", 0)", x.orderHas(order, 0), needs[order]);
            check.due("orderHas(" + order + ", 1)", x.orderHas(order, 1), needs[order]);
            check.due("orderHas(" + order + ", 2)", x.orderHas(order, 2), 0);
        }
        check.due("orderHas(3, 0)", x.orderHas(3, 0), Check.BAD);
        check.due("head(0, 3)", x.head(0, 3), 0);
        check.due("head(1, 3)", x.head(1, 3), 0);
        check.due("count(6)", x.count(6), 0);
        check.due("undo()", x.undo(), Check.STATE);
        check.due("kind(0)", x.kind(0), 4);
    }
}
