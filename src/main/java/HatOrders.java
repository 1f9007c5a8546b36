import java.util.Arrays;

/**
 * The face only looks at arguments and says refusals and findings; the classes inside find the answers.
 * All rows and towns are made here, once: the calls of all objects share one room, so no call makes any.
 */
public final class HatOrders {
    public static final int NONE = -1000000, BAD = -1000001, STATE = -1000002, FULL = -1000003;

    private static final int FINDINGS = -1000010, FAULTS = -1000100;
    private static final int NO_FINDING = 0, NULL = 1, PLACE = 2, KIND = 3, SIZE = 4, STORE = 5;
    private static final int ROWS = 8, LANES = 3, IMAGES = 2, MOST_SEEN = 16;
    private static final int MOST_STEPS = 20, LAST_STEP = 999;

    private final Row[] rows;
    private final Tape tape;
    private final Town draft;
    private final Town present;
    private final Acts acts;
    private final Foresight foresight;
    private final Asker asker;
    private final Town[] images;
    private final boolean[] imageKept;
    private int faultNumber;
    private int lastFinding;

    public HatOrders() {
        rows = new Row[ROWS];
        for (int i = 0; i < ROWS; i++) {
            rows[i] = new Row();
        }
        tape = new Tape();
        draft = new Town();
        present = new Town();
        acts = new Acts();
        foresight = new Foresight();
        asker = new Asker();
        images = new Town[IMAGES];
        for (int i = 0; i < IMAGES; i++) {
            images[i] = new Town();
        }
        imageKept = new boolean[IMAGES];
        faultNumber = 0;
        lastFinding = NO_FINDING;
    }

    // ---- rows

    public int row(int row, int lane, int n) {
        if (!isRow(row) || !isBetween(lane, 0, LANES - 1) || n > Row.MOST_ITEMS) {
            return BAD;
        }
        if (n < 0) {
            return finding(SIZE);
        }
        rows[row].lay(lane, n);
        return noFinding(n);
    }

    public int set(int row, int i, int v) {
        if (!isRow(row)) {
            return BAD;
        }
        int found = findingOf(row, i, 1);
        if (found != NO_FINDING) {
            return finding(found);
        }
        return noFinding(rows[row].put(i, v));
    }

    public int copy(int a, int i, int b, int j, int n) {
        if (!isRow(a) || !isRow(b)) {
            return BAD;
        }
        Row from = rows[a];
        Row to = rows[b];
        if (from.isMissing() || to.isMissing()) {
            return finding(NULL);
        }
        if (from.lane != to.lane) {
            return finding(STORE);
        }
        if (!from.hasPlaces(i, n) || !to.hasPlaces(j, n)) {
            return finding(PLACE);
        }
        System.arraycopy(from.items, i, to.items, j, n);
        return noFinding(n);
    }

    public int drop(int row) {
        if (!isRow(row)) {
            return BAD;
        }
        if (rows[row].isMissing()) {
            return finding(NULL);
        }
        return noFinding(rows[row].remove());
    }

    // ---- towns, acts

    public int feed(int letter) {
        if (!isBetween(letter, 0, 255)) {
            return BAD;
        }
        if (tape.isFull()) {
            return FULL;
        }
        return tape.add(letter);
    }

    public int town() {
        boolean isRead = tape.readInto(draft);
        tape.empty();
        if (!isRead) {
            faultNumber = tape.faultNumber;
            return FAULTS - tape.faultPlace;
        }
        present.becomeLike(draft);
        acts.forgetAll();
        return present.heads;
    }

    public int fault() {
        return faultNumber;
    }

    public int steps(int n) {
        if (isNoTown()) {
            return STATE;
        }
        if (!isBetween(n, 1, MOST_STEPS)) {
            return BAD;
        }
        if (present.step + n > LAST_STEP) {
            return FULL;
        }
        for (int i = 0; i < n; i++) {
            int holder = present.holder;
            int held = present.held;
            acts.keep(Acts.STEP, holder, held, present.takeStep());
        }
        return present.holder;
    }

    public int wind(int v) {
        if (isNoTown()) {
            return STATE;
        }
        if (!isBetween(v, 0, Town.MOST_WIND)) {
            return BAD;
        }
        int before = present.wind;
        acts.keep(Acts.WIND, present.holder, present.held, before);
        present.wind = v;
        return before;
    }

    public int give(int head) {
        if (!present.hasHead(head)) {
            return BAD;
        }
        int before = present.holder;
        acts.keep(Acts.GIFT, before, present.held, head);
        present.handTo(head);
        return before;
    }

    public int order(int needs) {
        if (isNoTown()) {
            return STATE;
        }
        if (!isBetween(needs, 1, Town.MOST_NEEDS)) {
            return BAD;
        }
        if (present.orders >= Town.MOST_ORDERS) {
            return FULL;
        }
        int number = present.addOrder(needs);
        acts.keep(Acts.TOLD, present.holder, present.held, number);
        return number;
    }

    public int back(int order) {
        if (!present.hasOrder(order)) {
            return BAD;
        }
        if (present.states[order] != Town.OUT) {
            return STATE;
        }
        acts.keep(Acts.BACK, present.holder, present.held, order);
        present.states[order] = Town.BACK;
        return present.left[order];
    }

    public int undo() {
        if (acts.kept == 0) {
            return STATE;
        }
        acts.revertLatest(present);
        return acts.kept;
    }

    public int head(int head, int what) {
        if (!present.hasHead(head)) {
            return BAD;
        }
        switch (what) {
            case 0: return present.keeps[head];
            case 1: return present.likes[head];
            case 2: return present.holder == head ? 1 : 0;
            case 3: return present.worked[head];
            default: return BAD;
        }
    }

    public int orderHas(int order, int what) {
        if (!present.hasOrder(order)) {
            return BAD;
        }
        switch (what) {
            case 0: return present.needs[order];
            case 1: return present.left[order];
            case 2: return present.states[order];
            default: return BAD;
        }
    }

    public int hat(int what) {
        if (isNoTown()) {
            return STATE;
        }
        switch (what) {
            case 0: return present.holder;
            case 1: return present.held;
            case 2: return present.wind;
            case 3: return present.step;
            default: return BAD;
        }
    }

    // ---- foretold

    public int who(int d) {
        if (isNoTown()) {
            return STATE;
        }
        return isSpan(d) ? foresight.holderBehind(present, d) : BAD;
    }

    public int gets(int head) {
        return present.hasHead(head) ? foresight.stepsUntilHolder(present, head) : BAD;
    }

    public int ever(int d) {
        if (isNoTown()) {
            return STATE;
        }
        return isSpan(d) ? foresight.holdersWithin(present, d) : BAD;
    }

    public int round(int what) {
        if (isNoTown()) {
            return STATE;
        }
        return isBetween(what, 0, 1) ? foresight.repetition(present, what) : BAD;
    }

    public int done(int order) {
        return present.hasOrder(order) ? foresight.stepOfDone(present, order) : BAD;
    }

    public int first() {
        return isNoTown() ? STATE : foresight.orderDoneFirst(present);
    }

    public int by(int head, int d) {
        if (!present.hasHead(head) || !isSpan(d)) {
            return BAD;
        }
        return foresight.workWithin(present, head, d);
    }

    public int toGive(int order, int what) {
        if (!present.hasOrder(order) || !isBetween(what, 0, 1)) {
            return BAD;
        }
        if (present.states[order] != Town.OUT) {
            return STATE;
        }
        return foresight.bestGift(present, order, what);
    }

    public int winds(int head, int d) {
        if (!present.hasHead(head) || !isSpan(d)) {
            return BAD;
        }
        return foresight.windsThatBring(present, head, d);
    }

    public int lot(int head, int d, int what) {
        if (!present.hasHead(head) || !isSpan(d) || !isBetween(what, 0, 1)) {
            return BAD;
        }
        int good = Integer.bitCount(foresight.windsThatBring(present, head, d));
        int all = Town.MOST_WIND + 1;
        return what == 0 ? inLowestTerms(good, good, all) : inLowestTerms(all, good, all);
    }

    public int seen(int row, int i, int n, int what) {
        if (isNoTown()) {
            return STATE;
        }
        if (!isRow(row) || !isBetween(n, 1, MOST_SEEN) || !isBetween(what, 0, 1)) {
            return BAD;
        }
        int found = findingOf(row, i, n);
        if (found != NO_FINDING) {
            return finding(found);
        }
        return noFinding(foresight.giftsThatGoAs(present, rows[row], i, n, what));
    }

    public int keeps(int head, int row, int i, int n) {
        if (!present.hasHead(head) || !isRow(row) || !isBetween(n, 1, MOST_SEEN)) {
            return BAD;
        }
        int found = findingOf(row, i, n);
        if (found != NO_FINDING) {
            return finding(found);
        }
        return noFinding(foresight.keepsThatGoAs(present, head, rows[row], i, n));
    }

    public int image(int k) {
        if (!isImage(k)) {
            return BAD;
        }
        if (isNoTown()) {
            return STATE;
        }
        images[k].becomeLike(present);
        imageKept[k] = true;
        return 1;
    }

    public int restore(int k) {
        if (!isImage(k)) {
            return BAD;
        }
        if (!imageKept[k]) {
            return STATE;
        }
        present.becomeLike(images[k]);
        acts.forgetAll();
        return 1;
    }

    // ---- asked

    public int kind(int head) {
        return present.hasHead(head) ? present.kinds[head] : BAD;
    }

    public int as(int head, int kind) {
        if (!present.hasHead(head) || !isBetween(kind, 0, Kinds.COUNT - 1)) {
            return BAD;
        }
        if (!Kinds.isOne(present.kinds[head], kind)) {
            return finding(KIND);
        }
        return noFinding(head);
    }

    public int ask(int head, int what) {
        if (!present.hasHead(head) || !isBetween(what, 0, 1)) {
            return BAD;
        }
        return asker.answer(present, head, what);
    }

    public int trace(int i) {
        return asker.numberAt(i);
    }

    public int count(int what) {
        switch (what) {
            case 0: return rowsThere();
            case 1: return present.heads;
            case 2: return present.orders;
            case 3: return present.ordersThatAre(Town.OUT);
            case 4: return present.ordersThatAre(Town.DONE);
            case 5: return present.step;
            case 6: return acts.kept;
            case 7: return tape.length;
            default: return BAD;
        }
    }

    public int status() {
        return lastFinding;
    }

    private int finding(int number) {
        lastFinding = number;
        return FINDINGS - number;
    }

    private int noFinding(int answer) {
        lastFinding = NO_FINDING;
        return answer;
    }

    private int findingOf(int row, int i, int n) {
        if (rows[row].isMissing()) {
            return NULL;
        }
        return rows[row].hasPlaces(i, n) ? NO_FINDING : PLACE;
    }

    private int rowsThere() {
        int there = 0;
        for (int i = 0; i < ROWS; i++) {
            if (!rows[i].isMissing()) {
                there++;
            }
        }
        return there;
    }

    private boolean isNoTown() {
        return present.heads == 0;
    }

    private static boolean isRow(int row) {
        return isBetween(row, 0, ROWS - 1);
    }

    private static boolean isImage(int k) {
        return isBetween(k, 0, IMAGES - 1);
    }

    private static boolean isSpan(int d) {
        return isBetween(d, 0, Foresight.FARTHEST);
    }

    private static boolean isBetween(int v, int least, int most) {
        return least <= v && v <= most;
    }

    /** A part (above or below) of a fraction; below divides 0, too, so that 0 is told as 0 by 1. */
    private static int inLowestTerms(int part, int above, int below) {
        for (int shared = below; shared > 1; shared--) {
            if (above % shared == 0 && below % shared == 0) {
                return part / shared;
            }
        }
        return part;
    }

    /** A ROW keeps room for all its ITEMS from the start, so that no call makes an array. */
    private static final class Row {
        static final int MOST_ITEMS = 40;
        static final int BYTES = 0, SHORTS = 1;
        private static final int MISSING = -1;

        final int[] items = new int[MOST_ITEMS];
        int lane = BYTES;
        private int size = MISSING;

        boolean isMissing() {
            return size == MISSING;
        }

        void lay(int newLane, int newSize) {
            Arrays.fill(items, 0);
            lane = newLane;
            size = newSize;
        }

        int remove() {
            int had = size;
            size = MISSING;
            return had;
        }

        /** The sum is a long, since i and n may be as large as an int can be. */
        boolean hasPlaces(int i, int n) {
            return i >= 0 && n >= 0 && (long) i + n <= size;
        }

        int put(int i, int v) {
            items[i] = cutToLane(v);
            return items[i];
        }

        private int cutToLane(int v) {
            switch (lane) {
                case BYTES: return (byte) v;
                case SHORTS: return (short) v;
                default: return v;
            }
        }
    }

    private static final class Kinds {
        static final int COUNT = 6;
        static final int SNEEZER = 2, TALL = 3, WINDY = 4, BRIM = 5;
        /** The letter of the KIND 1 stands at 0, and so on. */
        private static final String SORTS = "fstwb";
        private static final int[] WIDER = {0, 0, 1, 1, 0, 4};
        private static final int[] SIZE_BODIES = {10, 11, 12, 0, 13, 14};
        private static final int[] MARK_BODIES = {20, 21, 24, 22, 23, 0};

        /** 0 where the letter tells no SORT: no HEAD is told as one of the KIND 0. */
        static int told(int letter) {
            boolean isLetter = 'a' <= letter && letter <= 'z';
            return isLetter ? SORTS.indexOf((char) letter) + 1 : 0;
        }

        static boolean isOne(int kind, int asked) {
            int at = kind;
            for (int i = 0; i < COUNT; i++) {
                if (at == asked) {
                    return true;
                }
                at = WIDER[at];
            }
            return false;
        }

        static int bodyOf(int kind, int what) {
            int[] bodies = what == Asker.SIZE ? SIZE_BODIES : MARK_BODIES;
            int at = kind;
            for (int i = 0; i < COUNT; i++) {
                if (bodies[at] != 0) {
                    return bodies[at];
                }
                at = WIDER[at];
            }
            return bodies[0];
        }
    }

    /** All that an IMAGE keeps; without HEADS it is no TOWN. */
    private static final class Town {
        static final int MOST_HEADS = 6, MOST_ORDERS = 4;
        static final int MOST_WIND = 5, MOST_KEEPS = 9, MOST_LIKES = 15, MOST_NEEDS = 40;
        static final int OUT = 0, DONE = 1, BACK = 2;
        static final int NO_ORDER = -1;

        final int[] kinds = new int[MOST_HEADS];
        final int[] keeps = new int[MOST_HEADS];
        final int[] likes = new int[MOST_HEADS];
        final int[] worked = new int[MOST_HEADS];
        final int[] needs = new int[MOST_ORDERS];
        final int[] left = new int[MOST_ORDERS];
        final int[] states = new int[MOST_ORDERS];
        final int[] doneOn = new int[MOST_ORDERS];
        int heads;
        int orders;
        int wind;
        int holder;
        int held;
        int step;

        void clear() {
            heads = 0;
            orders = 0;
            wind = 0;
            holder = 0;
            held = 0;
            step = 0;
        }

        void becomeLike(Town other) {
            System.arraycopy(other.kinds, 0, kinds, 0, MOST_HEADS);
            System.arraycopy(other.keeps, 0, keeps, 0, MOST_HEADS);
            System.arraycopy(other.likes, 0, likes, 0, MOST_HEADS);
            System.arraycopy(other.worked, 0, worked, 0, MOST_HEADS);
            System.arraycopy(other.needs, 0, needs, 0, MOST_ORDERS);
            System.arraycopy(other.left, 0, left, 0, MOST_ORDERS);
            System.arraycopy(other.states, 0, states, 0, MOST_ORDERS);
            System.arraycopy(other.doneOn, 0, doneOn, 0, MOST_ORDERS);
            heads = other.heads;
            orders = other.orders;
            wind = other.wind;
            holder = other.holder;
            held = other.held;
            step = other.step;
        }

        /** The caller has looked whether there is room. */
        void addHead(int kind, int keepsSo, int likesSo) {
            kinds[heads] = kind;
            keeps[heads] = keepsSo;
            likes[heads] = likesSo;
            worked[heads] = 0;
            heads++;
        }

        /** The caller has looked whether there is room. */
        int addOrder(int needsSo) {
            int number = orders;
            needs[number] = needsSo;
            left[number] = needsSo;
            states[number] = OUT;
            doneOn[number] = NONE;
            orders++;
            return number;
        }

        boolean hasHead(int head) {
            return 0 <= head && head < heads;
        }

        boolean hasOrder(int order) {
            return 0 <= order && order < orders;
        }

        int ordersThatAre(int state) {
            int such = 0;
            for (int order = 0; order < orders; order++) {
                if (states[order] == state) {
                    such++;
                }
            }
            return such;
        }

        void handTo(int head) {
            holder = head;
            held = 0;
        }

        /** Answers which ORDER was worked on, or NO_ORDER: undoing the STEP needs it. */
        int takeStep() {
            step++;
            int order = orderToWorkOn();
            if (order != NO_ORDER) {
                workOn(order);
            }
            held++;
            if (held >= patience()) {
                handTo(seat(holder + stride()));
            }
            return order;
        }

        void revertStep(int hadIt, int hadItFor, int order) {
            step--;
            holder = hadIt;
            held = hadItFor;
            if (order != NO_ORDER) {
                left[order]++;
                states[order] = OUT;
                doneOn[order] = NONE;
                worked[hadIt]--;
            }
        }

        private int orderToWorkOn() {
            for (int order = 0; order < orders; order++) {
                if (states[order] == OUT && (likes[holder] >> order & 1) == 1) {
                    return order;
                }
            }
            return NO_ORDER;
        }

        private void workOn(int order) {
            left[order]--;
            worked[holder]++;
            if (left[order] == 0) {
                states[order] = DONE;
                doneOn[order] = step;
            }
        }

        private int patience() {
            int longer = kinds[holder] == Kinds.TALL ? ordersThatAre(OUT) : 0;
            return keeps[holder] + longer;
        }

        private int stride() {
            switch (kinds[holder]) {
                case Kinds.SNEEZER: return 2;
                case Kinds.WINDY: return wind;
                case Kinds.BRIM: return -wind;
                default: return 1;
            }
        }

        private int seat(int place) {
            return heads > 0 ? Math.floorMod(place, heads) : 0;
        }
    }

    private static final class Tape {
        private static final int MOST_BYTES = 120, MOST_FIGURES = 2;
        private static final int MISPLACED = 1, OUT_OF_RANGE = 2, NO_ROOM = 3;
        private static final int END = -1;

        private final int[] bytes = new int[MOST_BYTES];
        int length;
        int faultNumber;
        int faultPlace;
        private int at;
        private int number;

        boolean isFull() {
            return length >= MOST_BYTES;
        }

        int add(int letter) {
            bytes[length] = letter;
            length++;
            return length;
        }

        void empty() {
            length = 0;
        }

        /** False: there is a FAULT, and the TOWN is not to be used. */
        boolean readInto(Town town) {
            town.clear();
            at = 0;
            return readLaw(town) && readHeads(town) && readOrders(town);
        }

        private boolean readLaw(Town town) {
            if (!take('h') || !takeNumber(0, Town.MOST_WIND)) {
                return false;
            }
            town.wind = number;
            return take(';');
        }

        /** One turn more than there is room for, so that the head too many is met. */
        private boolean readHeads(Town town) {
            for (int i = 0; i <= Town.MOST_HEADS; i++) {
                int kind = Kinds.told(next());
                if (kind == 0) {
                    return i > 0 || refuse(MISPLACED);
                }
                if (!readHead(town, kind)) {
                    return false;
                }
            }
            return false;
        }

        private boolean readHead(Town town, int kind) {
            if (town.heads >= Town.MOST_HEADS) {
                return refuse(NO_ROOM);
            }
            at++;
            if (!takeNumber(1, Town.MOST_KEEPS)) {
                return false;
            }
            int keeps = number;
            if (!take(',') || !takeNumber(0, Town.MOST_LIKES)) {
                return false;
            }
            town.addHead(kind, keeps, number);
            return take(';');
        }

        /** One turn more than there is room for, so that the order too many is met. */
        private boolean readOrders(Town town) {
            for (int i = 0; i <= Town.MOST_ORDERS; i++) {
                if (next() == END) {
                    return true;
                }
                if (!readOrder(town)) {
                    return false;
                }
            }
            return false;
        }

        private boolean readOrder(Town town) {
            if (next() == 'o' && town.orders >= Town.MOST_ORDERS) {
                return refuse(NO_ROOM);
            }
            if (!take('o') || !takeNumber(1, Town.MOST_NEEDS)) {
                return false;
            }
            town.addOrder(number);
            return take(';');
        }

        private boolean take(int letter) {
            if (next() != letter) {
                return refuse(MISPLACED);
            }
            at++;
            return true;
        }

        private boolean takeNumber(int least, int most) {
            int figures = figuresAhead();
            if (figures == 0 || figures > MOST_FIGURES) {
                return refuse(MISPLACED);
            }
            int value = 0;
            for (int i = 0; i < figures; i++) {
                value = 10 * value + bytes[at + i] - '0';
            }
            if (value < least || value > most) {
                return refuse(OUT_OF_RANGE);
            }
            number = value;
            at += figures;
            return true;
        }

        private int figuresAhead() {
            int end = at;
            while (end < length && bytes[end] >= '0' && bytes[end] <= '9') {
                end++;
            }
            return end - at;
        }

        private int next() {
            return at < length ? bytes[at] : END;
        }

        private boolean refuse(int fault) {
            faultNumber = fault;
            faultPlace = at;
            return false;
        }
    }

    /** A ring of what each ACT takes to be undone; the oldest gives way to the newest. */
    private static final class Acts {
        static final int STEP = 0, WIND = 1, GIFT = 2, TOLD = 3, BACK = 4;
        private static final int MOST_ACTS = 24;

        private final int[] sorts = new int[MOST_ACTS];
        private final int[] holders = new int[MOST_ACTS];
        private final int[] helds = new int[MOST_ACTS];
        private final int[] details = new int[MOST_ACTS];
        private int nextPlace;
        int kept;

        void forgetAll() {
            kept = 0;
        }

        /** The hat as it was ahead of the ACT; the detail is an ORDER or a WIND. */
        void keep(int sort, int holder, int held, int detail) {
            sorts[nextPlace] = sort;
            holders[nextPlace] = holder;
            helds[nextPlace] = held;
            details[nextPlace] = detail;
            nextPlace = (nextPlace + 1) % MOST_ACTS;
            kept = Math.min(kept + 1, MOST_ACTS);
        }

        /** The caller has looked whether an ACT is kept. */
        void revertLatest(Town town) {
            nextPlace = (nextPlace + MOST_ACTS - 1) % MOST_ACTS;
            kept--;
            int detail = details[nextPlace];
            switch (sorts[nextPlace]) {
                case STEP:
                    town.revertStep(holders[nextPlace], helds[nextPlace], detail);
                    break;
                case WIND:
                    town.wind = detail;
                    break;
                case GIFT:
                    town.holder = holders[nextPlace];
                    town.held = helds[nextPlace];
                    break;
                case TOLD:
                    town.orders = detail;
                    break;
                case BACK:
                    town.states[detail] = Town.OUT;
                    break;
                default:
                    break;
            }
        }
    }

    /** Tries things on a second TOWN, so that the present one stays as it is. */
    private static final class Foresight {
        static final int FARTHEST = 60;
        private static final int NEVER = FARTHEST + 1;
        private static final int NOT_KNOWN = -1;
        private static final int BITS_OF_HOLDER = 3, BITS_OF_LEFT = 6;

        private final Town trial = new Town();
        private final long[] marks = new long[FARTHEST + 1];

        int holderBehind(Town present, int d) {
            trial.becomeLike(present);
            go(d);
            return trial.holder;
        }

        int stepsUntilHolder(Town present, int head) {
            trial.becomeLike(present);
            for (int n = 0; n <= FARTHEST; n++) {
                if (trial.holder == head) {
                    return n;
                }
                trial.takeStep();
            }
            return NONE;
        }

        int holdersWithin(Town present, int d) {
            trial.becomeLike(present);
            int heads = 1 << trial.holder;
            for (int n = 0; n < d; n++) {
                trial.takeStep();
                heads |= 1 << trial.holder;
            }
            return heads;
        }

        /** Behind how many STEPS (what is 0), or as behind how many fewer (1). */
        int repetition(Town present, int what) {
            trial.becomeLike(present);
            marks[0] = markOfTrial();
            for (int n = 1; n <= FARTHEST; n++) {
                trial.takeStep();
                marks[n] = markOfTrial();
                int earlier = earliestWithMarkOf(n);
                if (earlier < n) {
                    return what == 0 ? n : earlier;
                }
            }
            return NONE;
        }

        int stepOfDone(Town present, int order) {
            if (present.states[order] == Town.OUT) {
                trial.becomeLike(present);
                stepsUntilDone(order, FARTHEST);
                return trial.doneOn[order];
            }
            return present.doneOn[order];
        }

        /** No two are DONE on one STEP, so the first that is met is the one. */
        int orderDoneFirst(Town present) {
            trial.becomeLike(present);
            for (int n = 0; n < FARTHEST; n++) {
                int order = trial.takeStep();
                if (order != Town.NO_ORDER && trial.states[order] == Town.DONE) {
                    return order;
                }
            }
            return NONE;
        }

        int workWithin(Town present, int head, int d) {
            trial.becomeLike(present);
            go(d);
            return trial.worked[head] - present.worked[head];
        }

        /** To whom (what is 0), or behind how many STEPS (1). */
        int bestGift(Town present, int order, int what) {
            int fewest = NEVER;
            int best = NONE;
            for (int head = 0; head < present.heads; head++) {
                trial.becomeLike(present);
                trial.handTo(head);
                int n = stepsUntilDone(order, fewest - 1);
                if (n < fewest) {
                    fewest = n;
                    best = head;
                }
            }
            if (best == NONE) {
                return NONE;
            }
            return what == 0 ? best : fewest;
        }

        int windsThatBring(Town present, int head, int d) {
            int winds = 0;
            for (int wind = 0; wind <= Town.MOST_WIND; wind++) {
                trial.becomeLike(present);
                trial.wind = wind;
                go(d);
                if (trial.holder == head) {
                    winds |= 1 << wind;
                }
            }
            return winds;
        }

        /** How many (what is 0), or the least (1). */
        int giftsThatGoAs(Town present, Row row, int i, int n, int what) {
            int many = 0;
            int least = NONE;
            for (int head = present.heads - 1; head >= 0; head--) {
                trial.becomeLike(present);
                trial.handTo(head);
                if (goesAs(row, i, n)) {
                    many++;
                    least = head;
                }
            }
            return what == 0 ? many : least;
        }

        int keepsThatGoAs(Town present, int head, Row row, int i, int n) {
            int such = 0;
            for (int keeps = 1; keeps <= Town.MOST_KEEPS; keeps++) {
                trial.becomeLike(present);
                trial.keeps[head] = keeps;
                if (goesAs(row, i, n)) {
                    such |= 1 << (keeps - 1);
                }
            }
            return such;
        }

        private void go(int d) {
            for (int n = 0; n < d; n++) {
                trial.takeStep();
            }
        }

        /** NEVER, if it takes more than most. */
        private int stepsUntilDone(int order, int most) {
            for (int n = 1; n <= most; n++) {
                trial.takeStep();
                if (trial.states[order] == Town.DONE) {
                    return n;
                }
            }
            return NEVER;
        }

        private boolean goesAs(Row row, int i, int n) {
            for (int at = i; at < i + n; at++) {
                trial.takeStep();
                if (row.items[at] != NOT_KNOWN && row.items[at] != trial.holder) {
                    return false;
                }
            }
            return true;
        }

        /** One number for all that ROUND compares; held stands above, and needs no bound. */
        private long markOfTrial() {
            long mark = trial.held;
            mark = mark << BITS_OF_HOLDER | trial.holder;
            for (int order = 0; order < trial.orders; order++) {
                mark = mark << BITS_OF_LEFT | trial.left[order];
            }
            return mark;
        }

        private int earliestWithMarkOf(int n) {
            for (int earlier = 0; earlier < n; earlier++) {
                if (marks[earlier] == marks[n]) {
                    return earlier;
                }
            }
            return n;
        }
    }

    private static final class Asker {
        static final int SIZE = 0, MARK = 1;
        private static final int MOST_TRACED = 16;
        /** Twice as deep as the longest chain of BODIES. */
        private static final int DEEPEST = 12;

        private final int[] numbers = new int[MOST_TRACED];
        private int traced;

        int numberAt(int i) {
            return 0 <= i && i < traced ? numbers[i] : NONE;
        }

        int answer(Town town, int head, int what) {
            traced = 0;
            return askAnew(what, town, head, 0);
        }

        private int runBody(int body, Town town, int head, int depth) {
            if (depth >= DEEPEST) {
                return 0;
            }
            leaveNumber(body);
            int deeper = depth + 1;
            switch (body) {
                case 10: return town.keeps[head];
                case 11: return runBody(10, town, head, deeper) + askAnew(MARK, town, head, deeper);
                case 12: return -runBody(11, town, head, deeper);
                case 13: return runBody(10, town, head, deeper) - 100;
                case 14: return 2 * runBody(13, town, head, deeper);
                case 20: return head;
                case 21: return runBody(20, town, head, deeper) + town.worked[head];
                case 22: return runBody(21, town, head, deeper) - 1000;
                case 23: return runBody(20, town, head, deeper) - askAnew(SIZE, town, head, deeper);
                case 24: return 2 * runBody(21, town, head, deeper);
                default: return 0;
            }
        }

        private int askAnew(int what, Town town, int head, int depth) {
            return runBody(Kinds.bodyOf(town.kinds[head], what), town, head, depth);
        }

        private void leaveNumber(int body) {
            if (traced < MOST_TRACED) {
                numbers[traced] = body;
                traced++;
            }
        }
    }
}
