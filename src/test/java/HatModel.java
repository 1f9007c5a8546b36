import java.util.ArrayDeque;
import java.util.ArrayList;
import java.util.Arrays;
import java.util.Deque;
import java.util.HashMap;
import java.util.List;
import java.util.Map;

/**
 * The document told a second time, the slow way: states are copied whole, ACTS are undone by
 * keeping the state ahead of each, texts are cut into TOKENS first. Nothing of HatOrders is used.
 */
final class HatModel {
    static final int NONE = -1000000, BAD = -1000001, STATE = -1000002, FULL = -1000003;

    private static final class Order {
        int needs, left, how, when = NONE;

        Order(int needs) {
            this.needs = needs;
            left = needs;
        }

        Order twin() {
            Order o = new Order(needs);
            o.left = left;
            o.how = how;
            o.when = when;
            return o;
        }
    }

    private static final class Table {
        String sorts = "";
        List<Integer> keep = new ArrayList<>(), like = new ArrayList<>(), work = new ArrayList<>();
        List<Order> orders = new ArrayList<>();
        int wind, who, held, step;

        Table twin() {
            Table t = new Table();
            t.sorts = sorts;
            t.keep.addAll(keep);
            t.like.addAll(like);
            t.work.addAll(work);
            for (Order o : orders) {
                t.orders.add(o.twin());
            }
            t.wind = wind;
            t.who = who;
            t.held = held;
            t.step = step;
            return t;
        }

        int out() {
            int n = 0;
            for (Order o : orders) {
                n += o.how == 0 ? 1 : 0;
            }
            return n;
        }

        Table given(int head) {
            Table t = twin();
            t.who = head;
            t.held = 0;
            return t;
        }

        Table next() {
            Table t = twin();
            t.step++;
            for (int i = 0; i < orders.size(); i++) {
                Order o = t.orders.get(i);
                if (o.how == 0 && (like.get(who) & 1 << i) != 0) {
                    o.left--;
                    t.work.set(who, t.work.get(who) + 1);
                    if (o.left == 0) {
                        o.how = 1;
                        o.when = t.step;
                    }
                    break;
                }
            }
            char sort = sorts.charAt(who);
            t.held = held + 1;
            if (t.held < keep.get(who) + (sort == 't' ? t.out() : 0)) {
                return t;
            }
            int by = sort == 's' ? 2 : sort == 'w' ? wind : sort == 'b' ? -wind : 1;
            int heads = sorts.length();
            return t.given(((who + by) % heads + heads) % heads);
        }

        Table behind(int d) {
            Table t = this;
            for (int i = 0; i < d; i++) {
                t = t.next();
            }
            return t;
        }

        String mark() {
            StringBuilder s = new StringBuilder(who + " " + held);
            for (Order o : orders) {
                s.append(' ').append(o.left);
            }
            return s.toString();
        }
    }

    private final Map<Integer, int[]> rows = new HashMap<>();
    private final Map<Integer, Integer> lanes = new HashMap<>();
    private final Table[] images = new Table[2];
    private final Deque<Table> acts = new ArrayDeque<>();
    private final List<Integer> trace = new ArrayList<>();
    private String tape = "";
    private Table town;
    private int fault, status;

    private static boolean in(int v, int least, int most) {
        return v >= least && v <= most;
    }

    private boolean isHead(int h) {
        return town != null && in(h, 0, town.sorts.length() - 1);
    }

    private boolean isOrder(int o) {
        return town != null && in(o, 0, town.orders.size() - 1);
    }

    private int say(int finding, int answer) {
        status = finding;
        return finding == 0 ? answer : -1000010 - finding;
    }

    private int placeFinding(int row, int i, int n) {
        int[] items = rows.get(row);
        return items == null ? 1 : i < 0 || n < 0 || (long) i + n > items.length ? 2 : 0;
    }

    int row(int row, int lane, int n) {
        if (!in(row, 0, 7) || !in(lane, 0, 2) || n > 40) {
            return BAD;
        }
        if (n >= 0) {
            rows.put(row, new int[n]);
            lanes.put(row, lane);
        }
        return say(n < 0 ? 4 : 0, n);
    }

    int set(int row, int i, int v) {
        if (!in(row, 0, 7)) {
            return BAD;
        }
        int f = placeFinding(row, i, 1);
        if (f != 0) {
            return say(f, 0);
        }
        int bits = 8 << lanes.get(row);
        int cut = v << 32 - bits >> 32 - bits;
        rows.get(row)[i] = cut;
        return say(0, cut);
    }

    int copy(int a, int i, int b, int j, int n) {
        if (!in(a, 0, 7) || !in(b, 0, 7)) {
            return BAD;
        }
        if (rows.get(a) == null || rows.get(b) == null) {
            return say(1, 0);
        }
        if (!lanes.get(a).equals(lanes.get(b))) {
            return say(5, 0);
        }
        if (placeFinding(a, i, n) != 0 || placeFinding(b, j, n) != 0) {
            return say(2, 0);
        }
        int[] ahead = rows.get(a).clone();
        for (int k = 0; k < n; k++) {
            rows.get(b)[j + k] = ahead[i + k];
        }
        return say(0, n);
    }

    int drop(int row) {
        if (!in(row, 0, 7)) {
            return BAD;
        }
        int[] had = rows.remove(row);
        return say(had == null ? 1 : 0, had == null ? 0 : had.length);
    }

    int feed(int letter) {
        if (!in(letter, 0, 255)) {
            return BAD;
        }
        if (tape.length() == 120) {
            return FULL;
        }
        tape += (char) letter;
        return tape.length();
    }

    /** TOKENS as {letter, sign or '#' for a NUMBER or '?' for none, its first byte, its value}. */
    private static List<int[]> cut(String text) {
        List<int[]> tokens = new ArrayList<>();
        int at = 0;
        while (at < text.length()) {
            char c = text.charAt(at);
            int end = at;
            while (end < text.length() && in(text.charAt(end), '0', '9')) {
                end++;
            }
            if (end > at) {
                boolean isNumber = end - at <= 2;
                tokens.add(new int[] {isNumber ? '#' : '?', at, isNumber ? Integer.parseInt(text.substring(at, end)) : 0});
                at = end;
            } else {
                tokens.add(new int[] {in(c, 'a', 'z') || c == ',' || c == ';' ? c : '?', at, 0});
                at++;
            }
        }
        tokens.add(new int[] {'$', text.length(), 0});
        return tokens;
    }

    /** A table of what may follow what: the shape is h#; then S#,#; then o#; with ranges. */
    int town() {
        List<int[]> tokens = cut(tape);
        tape = "";
        Table t = new Table();
        String shape = "h#;";
        int[][] ranges = {{0, 5}};
        int inShape = 0, ofNumbers = 0, keep = 0;
        for (int[] token : tokens) {
            if (inShape == shape.length()) {
                inShape = 0;
                ofNumbers = 0;
                boolean isSort = "fstwb".indexOf(token[0]) >= 0;
                if (isSort && t.orders.isEmpty()) {
                    if (t.sorts.length() == 6) {
                        return faulty(3, token[1]);
                    }
                    t.sorts += (char) token[0];
                    t.work.add(0);
                    shape = (char) token[0] + "#,#;";
                    ranges = new int[][] {{1, 9}, {0, 15}};
                } else if (token[0] == 'o' && !t.sorts.isEmpty()) {
                    if (t.orders.size() == 4) {
                        return faulty(3, token[1]);
                    }
                    shape = "o#;";
                    ranges = new int[][] {{1, 40}};
                } else if (token[0] == '$' && !t.sorts.isEmpty()) {
                    town = t;
                    acts.clear();
                    return t.sorts.length();
                } else {
                    return faulty(1, token[1]);
                }
            }
            if (token[0] != shape.charAt(inShape)) {
                return faulty(1, token[1]);
            }
            if (token[0] == '#') {
                if (!in(token[2], ranges[ofNumbers][0], ranges[ofNumbers][1])) {
                    return faulty(2, token[1]);
                }
                if (shape.charAt(0) == 'h') {
                    t.wind = token[2];
                } else if (shape.charAt(0) == 'o') {
                    t.orders.add(new Order(token[2]));
                } else {
                    (ofNumbers == 0 ? t.keep : t.like).add(token[2]);
                }
                ofNumbers++;
            }
            inShape++;
        }
        throw new IllegalStateException("the end is a token, too");
    }

    private int faulty(int number, int place) {
        fault = number;
        return -1000100 - place;
    }

    int fault() {
        return fault;
    }

    private void act(Table after) {
        acts.push(town);
        if (acts.size() > 24) {
            acts.removeLast();
        }
        town = after;
    }

    int steps(int n) {
        if (town == null) {
            return STATE;
        }
        if (!in(n, 1, 20)) {
            return BAD;
        }
        if (town.step + n > 999) {
            return FULL;
        }
        for (int i = 0; i < n; i++) {
            act(town.next());
        }
        return town.who;
    }

    int wind(int v) {
        if (town == null) {
            return STATE;
        }
        if (!in(v, 0, 5)) {
            return BAD;
        }
        act(blown(v));
        return acts.peek().wind;
    }

    private Table blown(int v) {
        Table t = town.twin();
        t.wind = v;
        return t;
    }

    int give(int head) {
        if (!isHead(head)) {
            return BAD;
        }
        act(town.given(head));
        return acts.peek().who;
    }

    int order(int needs) {
        if (town == null) {
            return STATE;
        }
        if (!in(needs, 1, 40)) {
            return BAD;
        }
        if (town.orders.size() == 4) {
            return FULL;
        }
        act(town.twin());
        town.orders.add(new Order(needs));
        return town.orders.size() - 1;
    }

    int back(int order) {
        if (!isOrder(order)) {
            return BAD;
        }
        if (town.orders.get(order).how != 0) {
            return STATE;
        }
        act(town.twin());
        town.orders.get(order).how = 2;
        return town.orders.get(order).left;
    }

    int undo() {
        if (acts.isEmpty()) {
            return STATE;
        }
        town = acts.pop();
        return acts.size();
    }

    int head(int h, int what) {
        if (!isHead(h) || !in(what, 0, 3)) {
            return BAD;
        }
        return List.of(town.keep.get(h), town.like.get(h), town.who == h ? 1 : 0, town.work.get(h)).get(what);
    }

    int orderHas(int o, int what) {
        if (!isOrder(o) || !in(what, 0, 2)) {
            return BAD;
        }
        Order order = town.orders.get(o);
        return List.of(order.needs, order.left, order.how).get(what);
    }

    int hat(int what) {
        if (town == null) {
            return STATE;
        }
        return in(what, 0, 3) ? List.of(town.who, town.held, town.wind, town.step).get(what) : BAD;
    }

    int who(int d) {
        return town == null ? STATE : in(d, 0, 60) ? town.behind(d).who : BAD;
    }

    int gets(int head) {
        if (!isHead(head)) {
            return BAD;
        }
        for (int d = 0; d <= 60; d++) {
            if (town.behind(d).who == head) {
                return d;
            }
        }
        return NONE;
    }

    int ever(int d) {
        if (town == null || !in(d, 0, 60)) {
            return town == null ? STATE : BAD;
        }
        int heads = 0;
        for (int n = 0; n <= d; n++) {
            heads |= 1 << town.behind(n).who;
        }
        return heads;
    }

    int round(int what) {
        if (town == null || !in(what, 0, 1)) {
            return town == null ? STATE : BAD;
        }
        Map<String, Integer> seen = new HashMap<>();
        Table t = town;
        for (int d = 0; d <= 60; d++) {
            Integer earlier = seen.putIfAbsent(t.mark(), d);
            if (earlier != null) {
                return what == 0 ? d : earlier;
            }
            t = t.next();
        }
        return NONE;
    }

    int done(int o) {
        if (!isOrder(o)) {
            return BAD;
        }
        return town.behind(60).orders.get(o).when;
    }

    int first() {
        if (town == null) {
            return STATE;
        }
        int best = NONE, when = Integer.MAX_VALUE;
        for (int o = 0; o < town.orders.size(); o++) {
            if (town.orders.get(o).how == 0 && done(o) != NONE && done(o) < when) {
                when = done(o);
                best = o;
            }
        }
        return best;
    }

    int by(int h, int d) {
        return isHead(h) && in(d, 0, 60) ? town.behind(d).work.get(h) - town.work.get(h) : BAD;
    }

    int toGive(int o, int what) {
        if (!isOrder(o) || !in(what, 0, 1)) {
            return BAD;
        }
        if (town.orders.get(o).how != 0) {
            return STATE;
        }
        for (int d = 1; d <= 60; d++) {
            for (int h = 0; h < town.sorts.length(); h++) {
                if (town.given(h).behind(d).orders.get(o).how == 1) {
                    return what == 0 ? h : d;
                }
            }
        }
        return NONE;
    }

    int winds(int h, int d) {
        if (!isHead(h) || !in(d, 0, 60)) {
            return BAD;
        }
        int bits = 0;
        for (int v = 0; v <= 5; v++) {
            bits |= blown(v).behind(d).who == h ? 1 << v : 0;
        }
        return bits;
    }

    int lot(int h, int d, int what) {
        if (!isHead(h) || !in(d, 0, 60) || !in(what, 0, 1)) {
            return BAD;
        }
        int[][] fractions = {{0, 1}, {1, 6}, {1, 3}, {1, 2}, {2, 3}, {5, 6}, {1, 1}};
        return fractions[Integer.bitCount(winds(h, d))][what];
    }

    private static boolean fits(Table t, int[] told) {
        for (int k = 0; k < told.length; k++) {
            if (told[k] != -1 && told[k] != t.behind(k + 1).who) {
                return false;
            }
        }
        return true;
    }

    int seen(int row, int i, int n, int what) {
        if (town == null) {
            return STATE;
        }
        if (!in(row, 0, 7) || !in(n, 1, 16) || !in(what, 0, 1)) {
            return BAD;
        }
        int f = placeFinding(row, i, n);
        if (f != 0) {
            return say(f, 0);
        }
        List<Integer> such = new ArrayList<>();
        for (int h = 0; h < town.sorts.length(); h++) {
            if (fits(town.given(h), Arrays.copyOfRange(rows.get(row), i, i + n))) {
                such.add(h);
            }
        }
        return say(0, what == 0 ? such.size() : such.isEmpty() ? NONE : such.get(0));
    }

    int keeps(int h, int row, int i, int n) {
        if (!isHead(h) || !in(row, 0, 7) || !in(n, 1, 16)) {
            return BAD;
        }
        int f = placeFinding(row, i, n);
        if (f != 0) {
            return say(f, 0);
        }
        int bits = 0;
        for (int k = 1; k <= 9; k++) {
            Table t = town.twin();
            t.keep.set(h, k);
            bits |= fits(t, Arrays.copyOfRange(rows.get(row), i, i + n)) ? 1 << k - 1 : 0;
        }
        return say(0, bits);
    }

    int image(int k) {
        if (!in(k, 0, 1) || town == null) {
            return in(k, 0, 1) ? STATE : BAD;
        }
        images[k] = town.twin();
        return 1;
    }

    int restore(int k) {
        if (!in(k, 0, 1) || images[k] == null) {
            return in(k, 0, 1) ? STATE : BAD;
        }
        town = images[k].twin();
        acts.clear();
        return 1;
    }

    int kind(int h) {
        return isHead(h) ? " fstwb".indexOf(town.sorts.charAt(h)) : BAD;
    }

    int as(int h, int kind) {
        if (!isHead(h) || !in(kind, 0, 5)) {
            return BAD;
        }
        String[] are = {"f", "fst", "s", "t", "wb", "b"};
        boolean isOne = kind == 0 || are[kind].indexOf(town.sorts.charAt(h)) >= 0;
        return say(isOne ? 0 : 3, h);
    }

    /** The BODIES as the classes of a language would have them: supers, defaults, virtual calls. */
    private interface Head {
        HatModel model();

        int number();

        default int begin(int body) {
            if (model().trace.size() < 16) {
                model().trace.add(body);
            }
            return 0;
        }

        default int size() {
            return begin(10) + model().town.keep.get(number());
        }

        default int mark() {
            return begin(20) + number();
        }
    }

    private static class Firm implements Head {
        final HatModel model;
        final int number;

        Firm(HatModel model, int number) {
            this.model = model;
            this.number = number;
        }

        public HatModel model() {
            return model;
        }

        public int number() {
            return number;
        }

        public int size() {
            return begin(11) + Head.super.size() + mark();
        }

        public int mark() {
            return begin(21) + Head.super.mark() + model.town.work.get(number);
        }
    }

    private static final class Sneezer extends Firm {
        Sneezer(HatModel model, int number) {
            super(model, number);
        }

        public int size() {
            return begin(12) - super.size();
        }

        public int mark() {
            return begin(24) + 2 * super.mark();
        }
    }

    private static final class Tall extends Firm {
        Tall(HatModel model, int number) {
            super(model, number);
        }

        public int mark() {
            return begin(22) + super.mark() - 1000;
        }
    }

    private static class Windy implements Head {
        final HatModel model;
        final int number;

        Windy(HatModel model, int number) {
            this.model = model;
            this.number = number;
        }

        public HatModel model() {
            return model;
        }

        public int number() {
            return number;
        }

        public int size() {
            return begin(13) + Head.super.size() - 100;
        }

        public int mark() {
            return begin(23) + Head.super.mark() - size();
        }
    }

    private static final class Brim extends Windy {
        Brim(HatModel model, int number) {
            super(model, number);
        }

        public int size() {
            return begin(14) + 2 * super.size();
        }
    }

    int ask(int h, int what) {
        if (!isHead(h) || !in(what, 0, 1)) {
            return BAD;
        }
        trace.clear();
        Head head;
        switch (town.sorts.charAt(h)) {
            case 'f': head = new Firm(this, h); break;
            case 's': head = new Sneezer(this, h); break;
            case 't': head = new Tall(this, h); break;
            case 'w': head = new Windy(this, h); break;
            default: head = new Brim(this, h); break;
        }
        return what == 0 ? head.size() : head.mark();
    }

    int trace(int i) {
        return in(i, 0, trace.size() - 1) ? trace.get(i) : NONE;
    }

    int count(int what) {
        int done = 0;
        for (Order o : town == null ? new ArrayList<Order>() : town.orders) {
            done += o.how == 1 ? 1 : 0;
        }
        switch (what) {
            case 0: return rows.size();
            case 1: return town == null ? 0 : town.sorts.length();
            case 2: return town == null ? 0 : town.orders.size();
            case 3: return town == null ? 0 : town.out();
            case 4: return done;
            case 5: return town == null ? 0 : town.step;
            case 6: return acts.size();
            case 7: return tape.length();
            default: return BAD;
        }
    }

    int status() {
        return status;
    }
}
