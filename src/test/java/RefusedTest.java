/**
 * "What is refused, or found, changes nothing but status()". Of two objects made alike one has the refused
 * call; then both are looked at whole, by calls that change things, too: ACTS are undone, IMAGES restored, the
 * tape is read, ROWS are read ITEM by ITEM.
 */
public final class RefusedTest {
    private static final Check check = new Check();

    /** How an object comes to be; each time alike. */
    private interface Maker {
        HatOrders make();
    }

    public static void main(String[] args) {
        refused("a new object", HatOrders::new, NEW);
        refused("no town", RefusedTest::noTown, NO_TOWN);
        refused("a town in its midst", RefusedTest::midst, MIDST);
        refused("a town that is full", RefusedTest::full, FULL);
        untouched("a town in its midst", RefusedTest::midst, ONLY_TOLD);
        faultsLeaveAll();
        check.finish("RefusedTest");
    }

    private static final String[] NEW = {
        "row -1 0 0 BAD", "row 8 0 0 BAD", "row MIN 0 0 BAD", "row MAX 0 0 BAD", "row 0 -1 0 BAD", "row 0 3 0 BAD",
        "row 0 0 41 BAD", "row 0 0 MAX BAD", "row 0 0 -1 SIZE", "row 7 2 MIN SIZE",
        "set -1 0 0 BAD", "set 8 0 0 BAD", "set 0 0 0 NULL", "set 7 -1 0 NULL",
        "copy -1 0 0 0 0 BAD", "copy 0 0 8 0 0 BAD", "copy 0 0 0 0 0 NULL", "copy 7 -1 0 -1 -1 NULL",
        "drop -1 BAD", "drop 8 BAD", "drop 0 NULL", "drop 7 NULL",
        "feed -1 BAD", "feed 256 BAD", "feed MIN BAD", "feed MAX BAD",
        "steps 1 STATE", "steps 0 STATE", "steps 21 STATE", "wind 0 STATE", "wind -1 STATE", "wind 6 STATE",
        "give 0 BAD", "give -1 BAD", "order 1 STATE", "order 0 STATE", "order 41 STATE", "back 0 BAD", "back -1 BAD",
        "undo STATE", "head 0 0 BAD", "head 0 4 BAD", "orderHas 0 0 BAD", "hat 0 STATE", "hat 4 STATE", "hat -1 STATE",
        "who 0 STATE", "who 61 STATE", "who -1 STATE", "gets 0 BAD", "ever 0 STATE", "ever 61 STATE", "round 0 STATE",
        "round 2 STATE", "done 0 BAD", "first STATE", "by 0 0 BAD", "toGive 0 0 BAD", "winds 0 0 BAD", "lot 0 0 0 BAD",
        "seen 0 0 1 0 STATE", "seen 8 0 1 0 STATE", "seen 0 0 17 0 STATE", "seen 0 0 1 2 STATE",
        "keeps 0 0 0 1 BAD", "image 0 STATE", "image 1 STATE", "image -1 BAD", "image 2 BAD",
        "restore 0 STATE", "restore 1 STATE", "restore -1 BAD", "restore 2 BAD",
        "kind 0 BAD", "as 0 0 BAD", "as 0 6 BAD", "ask 0 0 BAD", "ask 0 2 BAD", "trace 0 NONE", "trace -1 NONE",
        "count -1 BAD", "count 8 BAD",
    };

    private static final String[] NO_TOWN = {
        "row 0 0 41 BAD", "row 0 3 1 BAD", "row 0 1 -1 SIZE", "row 1 0 MIN SIZE", "set 0 3 9 PLACE", "set 0 -1 9 PLACE",
        "set 2 0 9 PLACE", "set 3 0 9 NULL", "copy 0 0 1 0 1 STORE", "copy 0 0 3 0 1 NULL", "copy 3 0 0 0 1 NULL",
        "copy 0 0 0 1 3 PLACE", "copy 0 -1 0 0 1 PLACE", "copy 0 0 0 -1 1 PLACE", "copy 0 0 0 0 -1 PLACE",
        "copy 0 MAX 0 MAX MAX PLACE", "drop 3 NULL", "drop 8 BAD", "feed 256 BAD", "feed -1 BAD", "steps 1 STATE",
        "wind 1 STATE", "order 1 STATE", "undo STATE", "seen 0 0 1 0 STATE", "seen 3 0 1 0 STATE", "seen 0 9 1 0 STATE",
        "keeps 0 0 0 1 BAD", "image 0 STATE", "restore 0 STATE", "as 0 0 BAD", "ask 0 0 BAD",
    };

    /** ROWS as noTown() has them; five HEADS; ORDER 0 DONE, 1 taken BACK, 2 out; IMAGE 0; the ACTS of all sorts. */
    private static final String[] MIDST = {
        "row -1 0 1 BAD", "row 8 0 1 BAD", "row 0 -1 1 BAD", "row 0 3 1 BAD", "row 0 0 41 BAD", "row 0 0 -1 SIZE",
        "row 3 2 MIN SIZE", "set -1 0 1 BAD", "set 8 0 1 BAD", "set 3 0 1 NULL", "set 0 -1 1 PLACE", "set 0 3 1 PLACE",
        "set 2 0 1 PLACE", "set 0 MIN 1 PLACE", "set 0 MAX 1 PLACE", "copy 8 0 0 0 1 BAD", "copy 0 0 -1 0 1 BAD",
        "copy 0 0 3 0 1 NULL", "copy 3 0 0 0 1 NULL", "copy 0 0 1 0 1 STORE", "copy 1 0 0 0 1 STORE",
        "copy 0 0 0 1 3 PLACE", "copy 0 1 0 0 3 PLACE", "copy 0 -1 0 0 1 PLACE", "copy 0 0 0 -1 1 PLACE",
        "copy 0 0 0 1 -1 PLACE", "copy 0 4 0 0 0 PLACE", "copy 0 0 0 4 0 PLACE", "drop 3 NULL", "drop -1 BAD",
        "drop 8 BAD", "feed -1 BAD", "feed 256 BAD",
        "steps 0 BAD", "steps -1 BAD", "steps 21 BAD", "steps MAX BAD", "steps MIN BAD", "wind -1 BAD", "wind 6 BAD",
        "wind MAX BAD", "give -1 BAD", "give 5 BAD", "give MAX BAD", "order 0 BAD", "order -1 BAD", "order 41 BAD",
        "back -1 BAD", "back 3 BAD", "back 0 STATE", "back 1 STATE", "head -1 0 BAD", "head 5 0 BAD", "head 0 -1 BAD",
        "head 0 4 BAD", "orderHas -1 0 BAD", "orderHas 3 0 BAD", "orderHas 0 -1 BAD", "orderHas 0 3 BAD", "hat -1 BAD",
        "hat 4 BAD", "who -1 BAD", "who 61 BAD", "gets -1 BAD", "gets 5 BAD", "ever -1 BAD", "ever 61 BAD",
        "round -1 BAD", "round 2 BAD", "done -1 BAD", "done 3 BAD", "by -1 0 BAD", "by 5 0 BAD", "by 0 -1 BAD",
        "by 0 61 BAD", "toGive -1 0 BAD", "toGive 3 0 BAD", "toGive 2 -1 BAD", "toGive 2 2 BAD", "toGive 0 2 BAD",
        "toGive 0 0 STATE", "toGive 1 1 STATE", "winds -1 0 BAD", "winds 5 0 BAD", "winds 0 -1 BAD", "winds 0 61 BAD",
        "lot -1 0 0 BAD", "lot 5 0 0 BAD", "lot 0 -1 0 BAD", "lot 0 61 0 BAD", "lot 0 0 -1 BAD", "lot 0 0 2 BAD",
        "seen -1 0 1 0 BAD", "seen 8 0 1 0 BAD", "seen 0 0 0 0 BAD", "seen 0 0 17 0 BAD", "seen 0 0 1 -1 BAD",
        "seen 0 0 1 2 BAD", "seen 3 0 17 0 BAD", "seen 3 -1 1 0 NULL", "seen 0 -1 1 0 PLACE", "seen 0 3 1 0 PLACE",
        "seen 0 0 4 1 PLACE", "seen 2 0 1 0 PLACE", "seen 0 MAX 16 0 PLACE", "keeps -1 0 0 1 BAD", "keeps 5 0 0 1 BAD",
        "keeps 0 -1 0 1 BAD", "keeps 0 8 0 1 BAD", "keeps 0 0 0 0 BAD", "keeps 0 0 0 17 BAD", "keeps 0 3 -1 1 NULL",
        "keeps 0 0 -1 1 PLACE", "keeps 0 0 3 1 PLACE", "keeps 0 0 0 4 PLACE", "keeps 0 0 MAX 16 PLACE",
        "image -1 BAD", "image 2 BAD", "restore -1 BAD", "restore 2 BAD", "restore 1 STATE", "kind -1 BAD", "kind 5 BAD",
        "as -1 0 BAD", "as 5 0 BAD", "as 0 -1 BAD", "as 0 6 BAD", "as 0 2 KIND", "as 4 1 KIND", "ask -1 0 BAD",
        "ask 5 0 BAD", "ask 0 -1 BAD", "ask 0 2 BAD", "trace -1 NONE", "trace 16 NONE", "count -1 BAD", "count 8 BAD",
    };

    /** STEP 985, four ORDERS, 24 ACTS, 120 bytes. */
    private static final String[] FULL = {
        "feed 59 FULL", "feed 0 FULL", "feed 255 FULL", "feed 256 BAD", "feed -1 BAD", "order 1 FULL", "order 40 FULL",
        "order 0 BAD", "order 41 BAD", "steps 15 FULL", "steps 20 FULL", "steps 21 BAD", "steps 0 BAD", "give 6 BAD",
        "back 4 BAD",
    };

    /** Calls that are answered and yet change nothing, but the TRACE and status(). */
    private static final String[] ONLY_TOLD = {
        "fault", "head 0 3", "orderHas 2 1", "hat 1", "who 60", "gets 4", "ever 60", "round 0", "round 1", "done 0", "done 2",
        "first", "by 0 60", "toGive 2 0", "toGive 2 1", "winds 0 60", "lot 0 60 0", "lot 0 60 1", "seen 0 0 3 0",
        "seen 0 0 3 1", "keeps 0 0 0 3", "keeps 4 0 0 3", "kind 0", "as 0 1", "trace 0", "count 0", "count 7", "status",
        "copy 0 0 0 0 0", "copy 0 3 0 3 0", "copy 0 0 0 0 3",
    };

    private static HatOrders noTown() {
        HatOrders x = new HatOrders();
        Check.fill(x, 0, 0, 4, 2, -1);
        Check.fill(x, 1, 1, 5, 3);
        x.row(2, 2, 0);
        x.row(7, 2, 1);
        Check.feed(x, "h6;");
        x.town();
        Check.feed(x, "h1;s1,2;");
        x.drop(4);
        return x;
    }

    private static HatOrders midst() {
        HatOrders x = new HatOrders();
        Check.feed(x, "h2;f2,1;s1,2;t1,3;w1,0;b1,4;o2;o9;");
        x.town();
        x.steps(1);
        x.image(0);
        x.steps(2);
        x.back(1);
        x.order(5);
        x.wind(4);
        x.give(4);
        x.steps(1);
        x.ask(1, 0);
        Check.fill(x, 0, 0, 4, 2, -1);
        Check.fill(x, 1, 1, 5, 3);
        x.row(2, 2, 0);
        x.row(7, 2, 1);
        Check.feed(x, "h1;s1,2;");
        x.drop(4);
        return x;
    }

    private static HatOrders full() {
        HatOrders x = new HatOrders();
        Check.feed(x, "h2;f2,1;s1,2;t1,3;w1,0;b1,4;f1,0;o2;o1;o1;o9;");
        x.town();
        for (int n = 0; n < 49; n++) {
            x.steps(20);
        }
        x.steps(5);
        for (int n = 0; n < 120; n++) {
            x.feed(59);
        }
        x.drop(4);
        return x;
    }

    /** Lines are a call and the answer that is due. */
    private static void refused(String of, Maker maker, String[] lines) {
        check.promise("'What is refused, or found, changes nothing but status()', " + of);
        Looked[] due = look(maker, null, 0);
        int status = maker.make().status();
        for (String line : lines) {
            String call = line.substring(0, line.lastIndexOf(' '));
            int answer = Calls.answer(line.substring(line.lastIndexOf(' ') + 1));
            int finding = Calls.findingOf(answer);
            dueLooks(call, due, look(maker, call, answer));
            HatOrders x = maker.make();
            Calls.make(x, call);
            check.due("status() behind " + call, x.status(), finding == 0 ? status : finding);
        }
    }

    private static void untouched(String of, Maker maker, String[] calls) {
        check.promise("what only tells changes nothing, " + of);
        Looked[] due = look(maker, null, 0);
        for (String call : calls) {
            dueLooks(call, due, look(maker, call, Calls.make(maker.make(), call)));
        }
    }

    private static void dueLooks(String call, Looked[] due, Looked[] got) {
        for (int i = 0; i < due.length; i++) {
            boolean isSame = got[i].all.toString().equals(due[i].all.toString());
            check.due(call + " changes nothing of " + due[i].name, isSame);
        }
    }

    /** What was seen of an object, in the order it was asked for. */
    private static final class Looked {
        final String name;
        final HatOrders x;
        final StringBuilder all = new StringBuilder();

        Looked(String name, HatOrders x) {
            this.name = name;
            this.x = x;
        }

        int see(String call) {
            int answer = Calls.make(x, call);
            all.append(call).append(' ').append(answer).append("; ");
            return answer;
        }
    }

    /** Each look has an object of its own, since a look changes it, and none may have more than 512 calls. */
    private static Looked[] look(Maker maker, String call, int answer) {
        String[] names = {"what is seen", "ACTS", "IMAGES", "the tape", "ROWS"};
        Looked[] looks = new Looked[names.length];
        for (int i = 0; i < names.length; i++) {
            looks[i] = new Looked(names[i], maker.make());
            if (call != null) {
                check.due(call, Calls.make(looks[i].x, call), answer);
            }
        }
        lookAtAll(looks[0]);
        lookAtActs(looks[1]);
        lookAtImages(looks[2]);
        lookAtTape(looks[3]);
        lookAtRows(looks[4]);
        return looks;
    }

    private static void lookAtAll(Looked l) {
        for (int what = 0; what < 8; what++) {
            l.see("count " + what);
        }
        l.see("fault");
        for (int i = 0; i < 17; i++) {
            l.see("trace " + i);
        }
        l.all.append(Check.face(l.x));
        l.see("first");
        l.see("ever 60");
        l.see("round 0");
        l.see("round 1");
    }

    private static void lookAtActs(Looked l) {
        for (int n = 0; n < 25; n++) {
            l.see("undo");
            for (int what = 0; what < 4; what++) {
                l.see("hat " + what);
            }
            l.see("count 3");
            l.see("count 4");
            l.see("orderHas 0 1");
        }
    }

    private static void lookAtImages(Looked l) {
        l.see("restore 0");
        l.all.append(Check.face(l.x));
        l.see("restore 1");
        l.all.append(Check.face(l.x));
    }

    private static void lookAtTape(Looked l) {
        l.see("town");
        l.see("fault");
        l.all.append(Check.face(l.x));
    }

    private static void lookAtRows(Looked l) {
        l.see("town");
        Check.feed(l.x, "h0;f9,0;f9,0;f9,0;f9,0;f9,0;f9,0;");
        l.see("town");
        for (int row = 0; row < 8; row++) {
            for (int i = 0; i < 4; i++) {
                l.see("seen " + row + " " + i + " 1 0");
                l.see("seen " + row + " " + i + " 1 1");
            }
            l.see("set " + row + " 0 70000");
            l.see("drop " + row);
        }
    }

    /** A FAULT empties the tape and tells its number; all else stays. */
    private static void faultsLeaveAll() {
        check.promise("'-1000100 less the place of a FAULT: all stays'");
        String[] texts = {"", "x", "h6;", "h0;", "h0;f1,0;f", "h0;f1,0;f1,0;f1,0;f1,0;f1,0;f1,0;f", "h0;f1,0;o1;o1;o1;o1;o",
            "h0;f1,0;o41;"};
        int[] places = {0, 0, 1, 3, 9, 33, 20, 9};
        Looked[] due = look(RefusedTest::emptyTape, null, 0);
        int status = midst().status();
        for (int i = 0; i < texts.length; i++) {
            String text = texts[i];
            HatOrders x = emptyTape();
            Check.feed(x, text);
            check.due("town() of '" + text + "'", x.town(), Check.FAULT - places[i]);
            check.due("status() behind '" + text + "'", x.status(), status);
            dueLooks("town() of '" + text + "'", due, look(() -> faultAndFault(text), null, 0));
        }
    }

    /** What midst() has on the tape would be a TOWN: it is spoilt, and read. */
    private static HatOrders emptyTape() {
        HatOrders x = midst();
        x.feed('x');
        x.town();
        return x;
    }

    /** The last FAULT is that of emptyTape(), so that fault() is alike, too. */
    private static HatOrders faultAndFault(String text) {
        HatOrders x = emptyTape();
        Check.feed(x, text);
        x.town();
        x.feed('x');
        x.town();
        return x;
    }
}
