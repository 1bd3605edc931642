import java.util.ArrayList;
import java.util.Arrays;
import java.util.HashMap;
import java.util.List;
import java.util.Map;
import java.util.NoSuchElementException;
import java.util.regex.Matcher;
import java.util.regex.Pattern;

/**
 * The document once more, as slowly and literally as it can be said: fractions of any size, all paths one by one,
 * all strikes and marks one by one. It shares no thought of how with OptionBench, so that the two can be compared.
 */
final class Model {
    static final int HIDDEN = -1000000;

    static final class Opt {
        String name;
        int kind;
        int strike;
        int second = -1;
        int may = 13;
        int barrier;
        int side = -1;
        int level = -1;
        int rebate;
        int recall = -1;
        int owned;

        Opt copy() {
            Opt o = new Opt();
            o.name = name;
            o.kind = kind;
            o.strike = strike;
            o.second = second;
            o.may = may;
            o.barrier = barrier;
            o.side = side;
            o.level = level;
            o.rebate = rebate;
            o.recall = recall;
            o.owned = owned;
            return o;
        }
    }

    static final class State {
        int first = 100;
        int width = 2;
        List<Integer> falls = new ArrayList<>();
        Map<Integer, Integer> cash = new HashMap<>();
        List<Opt> opts = new ArrayList<>();

        State copy() {
            State s = new State();
            s.first = first;
            s.width = width;
            s.falls.addAll(falls);
            s.cash.putAll(cash);
            for (Opt o : opts) {
                s.opts.add(o.copy());
            }
            return s;
        }

        int lowest() {
            return first - falls.stream().mapToInt(Integer::intValue).sum();
        }
    }

    static final class Fault extends RuntimeException {
        final int kind;
        final int place;

        Fault(int kind, int place) {
            super(null, null, false, false);
            this.kind = kind;
            this.place = place;
        }
    }

    State s = new State();
    byte[] tape = new byte[0];
    int fault;
    final State[] images = new State[2];
    final List<State> before = new ArrayList<>();
    private Map<String, Ratio> memo = new HashMap<>();

    // ---- reading ----

    private static final List<String> WORDS = Arrays.asList("stock", "step", "times", "cash", "option", "recall",
            "call", "put", "digit", "spread", "either", "over", "once", "any", "from", "out", "rebate", "in",
            "above", "below");
    private static final List<String> KINDS = Arrays.asList("call", "put", "digit", "spread", "either", "over");

    private String text;
    private List<int[]> spans;
    private int at;

    private String token() {
        return at < spans.size() ? text.substring(spans.get(at)[0], spans.get(at)[1]) : "";
    }

    private int place() {
        return at < spans.size() ? spans.get(at)[0] : text.length();
    }

    private boolean take(String word) {
        if (token().equals(word)) {
            at++;
            return true;
        }
        return false;
    }

    private void need(String word) {
        if (!take(word)) {
            throw new Fault(1, place());
        }
    }

    private int number(int low, int high) {
        if (!token().matches("[0-9]{1,3}")) {
            throw new Fault(1, place());
        }
        int n = Integer.parseInt(token());
        if (n < low || n > high) {
            throw new Fault(2, place());
        }
        at++;
        return n;
    }

    private State parse(String source) {
        text = source;
        spans = new ArrayList<>();
        at = 0;
        if (text.length() > 500) {
            throw new Fault(1, 500);
        }
        Matcher m = Pattern.compile("[a-z0-9]+|[^ ]", Pattern.DOTALL).matcher(text);
        while (m.find()) {
            spans.add(new int[] {m.start(), m.end()});
        }
        State n = new State();
        if (take("stock")) {
            n.first = number(0, 999);
            n.width = number(2, 9);
            need(";");
        }
        while (at < spans.size()) {
            int line = place();
            if (take("step")) {
                parseStep(n, line);
            } else if (take("cash")) {
                if (n.cash.containsKey(n.falls.size())) {
                    throw new Fault(3, line);
                }
                n.cash.put(n.falls.size(), number(1, 99));
            } else if (take("option")) {
                if (n.opts.size() == 4) {
                    throw new Fault(4, line);
                }
                n.opts.add(parseOption(n));
            } else {
                throw new Fault(1, line);
            }
            need(";");
        }
        return n;
    }

    private void parseStep(State n, int line) {
        if (n.falls.size() == 12) {
            throw new Fault(4, line);
        }
        int where = place();
        int fall = number(1, n.width - 1);
        int times = 1;
        if (take("times")) {
            where = place();
            times = number(1, 12 - n.falls.size());
        }
        for (int i = 0; i < times; i++) {
            n.falls.add(fall);
        }
        if (n.lowest() < 0) {
            throw new Fault(2, where);
        }
    }

    private Opt parseOption(State n) {
        Opt o = new Opt();
        o.name = name();
        if (find(n, o.name) >= 0) {
            throw new Fault(3, place());
        }
        at++;
        o.kind = KINDS.indexOf(token());
        if (o.kind < 0) {
            throw new Fault(1, place());
        }
        at++;
        if (o.kind == 5) {
            o.second = find(n, name());
            if (o.second < 0) {
                throw new Fault(3, place());
            }
            at++;
        }
        o.strike = number(0, 999);
        if (o.kind == 2) {
            o.second = number(1, 99);
        } else if (o.kind == 3) {
            o.second = number(o.strike + 1, 999);
        }
        if (take("any")) {
            o.may = 0;
        } else if (take("from")) {
            o.may = number(0, 12);
        } else {
            take("once");
        }
        o.barrier = take("out") ? 1 : take("in") ? 2 : 0;
        if (o.barrier > 0) {
            o.side = take("above") ? 1 : 0;
            if (o.side == 0) {
                need("below");
            }
            o.level = number(0, 999);
        }
        if (o.barrier == 1 && take("rebate")) {
            o.rebate = number(0, 99);
        }
        if (take("recall")) {
            o.recall = number(1, 99);
        }
        return o;
    }

    private String name() {
        if (!token().matches("[a-z]{1,8}") || WORDS.contains(token())) {
            throw new Fault(1, place());
        }
        return token();
    }

    private static int find(State n, String name) {
        for (int k = 0; k < n.opts.size(); k++) {
            if (n.opts.get(k).name.equals(name)) {
                return k;
            }
        }
        return -1;
    }

    int feed(int... numbers) {
        if (tape.length + 20 > 540) {
            return -1;
        }
        byte[] longer = Arrays.copyOf(tape, tape.length + 20);
        for (int i = 0; i < 20; i++) {
            longer[tape.length + i] = (byte) (numbers[i / 4] >> (24 - 8 * (i % 4)));
        }
        tape = longer;
        return tape.length;
    }

    boolean end(int n) {
        if (n < 0 || n > tape.length) {
            return false;
        }
        tape = Arrays.copyOf(tape, n);
        return true;
    }

    int bench() {
        String source = new String(tape, java.nio.charset.StandardCharsets.ISO_8859_1);
        tape = new byte[0];
        fault = 0;
        try {
            s = parse(source);
        } catch (Fault f) {
            fault = f.kind;
            return -1000 - f.place;
        }
        before.clear();
        forget();
        return s.opts.size();
    }

    private void forget() {
        memo = new HashMap<>();
    }

    // ---- what there is ----

    int steps() {
        return s.falls.size();
    }

    boolean isOpt(int k) {
        return k >= 0 && k < s.opts.size();
    }

    boolean isNode(int t, int j) {
        return t >= 0 && t <= steps() && j >= 0 && j <= t;
    }

    static boolean isBit(int n) {
        return n == 0 || n == 1;
    }

    private static void check(boolean there) {
        if (!there) {
            throw new NoSuchElementException();
        }
    }

    int cashAt(int t) {
        return s.cash.getOrDefault(t, 0);
    }

    int count(int what) {
        int all = 0;
        for (int t = 0; t <= steps(); t++) {
            all += cashAt(t);
        }
        int[] told = {steps(), s.opts.size(), s.width, s.first, all, before.size(), tape.length};
        return what >= 0 && what < told.length ? told[what] : -1;
    }

    int step(int t, int what) {
        if (what == 0 && t >= 1 && t <= steps()) {
            return s.falls.get(t - 1);
        }
        return what == 1 && t >= 0 && t <= steps() ? cashAt(t) : -1;
    }

    int option(int k, int what) {
        if (!isOpt(k) || what < 0 || what > 9) {
            return HIDDEN;
        }
        Opt o = s.opts.get(k);
        int earliest = steps();
        for (int t = steps(); t >= 0; t--) {
            if (may(o, t)) {
                earliest = t;
            }
        }
        return new int[] {o.kind, o.strike, o.second, earliest, o.barrier, o.side, o.level, o.rebate, o.owned,
            o.recall}[what];
    }

    int stripped(int t, int j) {
        int sum = s.first + j * s.width;
        for (int i = 0; i < t; i++) {
            sum -= s.falls.get(i);
        }
        return sum;
    }

    int priceAt(int t, int j) {
        int sum = stripped(t, j);
        for (int i = t; i <= steps(); i++) {
            sum += cashAt(i);
        }
        return sum;
    }

    int price(int t, int j, int what) {
        if (!isNode(t, j) || what < 0 || what > 2) {
            return -1;
        }
        return new int[] {priceAt(t, j), priceAt(t, j) - cashAt(t), stripped(t, j)}[what];
    }

    // ---- worths ----

    boolean may(Opt o, int t) {
        return t == steps() || t >= o.may;
    }

    boolean touched(Opt o, int t, int j) {
        int p = priceAt(t, j);
        return o.barrier != 0 && (o.side == 1 ? p >= o.level : p <= o.level);
    }

    Ratio payOf(Opt o, int t, int j) {
        int p = priceAt(t, j);
        Ratio pay;
        switch (o.kind) {
            case 0: pay = Ratio.of(p - o.strike); break;
            case 1: pay = Ratio.of(o.strike - p); break;
            case 2: pay = Ratio.of(p >= o.strike ? o.second : 0); break;
            case 3: pay = Ratio.of(p - o.strike > o.second - o.strike ? o.second - o.strike : p - o.strike); break;
            case 4: pay = Ratio.of(p - o.strike).max(Ratio.of(o.strike - p)); break;
            default: pay = valueOf(s.opts.get(o.second), t, j, true).minus(Ratio.of(o.strike));
        }
        return pay.max(Ratio.ZERO);
    }

    Ratio weight(int t, boolean up) {
        int fall = s.falls.get(t - 1);
        return Ratio.of(up ? fall : s.width - fall, s.width);
    }

    Ratio heldOf(Opt o, int t, int j, boolean barred) {
        if (t == steps()) {
            return Ratio.ZERO;
        }
        return weight(t + 1, true).times(valueOf(o, t + 1, j + 1, barred))
            .plus(weight(t + 1, false).times(valueOf(o, t + 1, j, barred)));
    }

    Ratio keptOf(Opt o, int t, int j, boolean barred) {
        Ratio held = heldOf(o, t, j, barred);
        if (o.recall < 0) {
            return held;
        }
        Ratio bought = payOf(o, t, j).plus(Ratio.of(o.recall));
        return bought.compareTo(held) < 0 ? bought : held;
    }

    boolean exercises(Opt o, int t, int j, boolean barred) {
        Ratio pay = payOf(o, t, j);
        return may(o, t) && pay.isPositive() && pay.compareTo(keptOf(o, t, j, barred)) >= 0;
    }

    boolean recalls(Opt o, int t, int j, boolean barred) {
        return !exercises(o, t, j, barred) && keptOf(o, t, j, barred).compareTo(heldOf(o, t, j, barred)) < 0;
    }

    Ratio valueOf(Opt o, int t, int j, boolean barred) {
        String key = System.identityHashCode(o) + " " + t + " " + j + " " + barred + " " + o.strike + " " + o.may;
        Ratio known = memo.get(key);
        if (known == null) {
            known = valueAnew(o, t, j, barred);
            memo.put(key, known);
        }
        return known;
    }

    private Ratio valueAnew(Opt o, int t, int j, boolean barred) {
        if (barred && touched(o, t, j)) {
            return o.barrier == 1 ? Ratio.of(o.rebate) : valueOf(o, t, j, false);
        }
        if (barred && o.barrier == 2) {
            return heldOf(o, t, j, true);
        }
        return exercises(o, t, j, barred) ? payOf(o, t, j) : keptOf(o, t, j, barred);
    }

    int doesOf(Opt o, int t, int j) {
        if (touched(o, t, j)) {
            return o.barrier == 1 ? 2 : 3;
        }
        if (o.barrier == 2) {
            return 0;
        }
        return exercises(o, t, j, true) ? 1 : recalls(o, t, j, true) ? 4 : 0;
    }

    Ratio standsBy(Opt o, int t, int j, boolean barred) {
        if (t == steps()) {
            return Ratio.ZERO;
        }
        return valueOf(o, t + 1, j + 1, barred).minus(valueOf(o, t + 1, j, barred)).times(Ratio.of(1, s.width));
    }

    Ratio standsOf(Opt o, int t, int j) {
        int does = doesOf(o, t, j);
        return does == 2 ? Ratio.ZERO : standsBy(o, t, j, does != 3);
    }

    long pays(int k, int t, int j, int part) {
        check(isOpt(k) && isNode(t, j) && isBit(part));
        return payOf(s.opts.get(k), t, j).part(part);
    }

    long value(int k, int t, int j, int part) {
        check(isOpt(k) && isNode(t, j) && isBit(part));
        return valueOf(s.opts.get(k), t, j, true).part(part);
    }

    long plain(int k, int t, int j, int part) {
        check(isOpt(k) && isNode(t, j) && isBit(part));
        return valueOf(s.opts.get(k), t, j, false).part(part);
    }

    long held(int k, int t, int j, int part) {
        check(isOpt(k) && isNode(t, j) && isBit(part));
        return heldOf(s.opts.get(k), t, j, true).part(part);
    }

    int does(int k, int t, int j) {
        return isOpt(k) && isNode(t, j) ? doesOf(s.opts.get(k), t, j) : -1;
    }

    long stands(int k, int t, int j, int part) {
        check(isOpt(k) && isNode(t, j) && isBit(part));
        return standsOf(s.opts.get(k), t, j).part(part);
    }

    int frontier(int k, int t) {
        if (!isOpt(k) || !isNode(t, 0)) {
            return -1;
        }
        int bits = 0;
        for (int j = 0; j <= t; j++) {
            bits += does(k, t, j) == 1 ? 1 << j : 0;
        }
        return bits;
    }

    // ---- path by path ----

    static int nodeOn(int path, int t) {
        return Integer.bitCount(path & ((1 << t) - 1));
    }

    Ratio weightOf(int path) {
        Ratio w = Ratio.ONE;
        for (int t = 1; t <= steps(); t++) {
            w = w.times(weight(t, (path >> (t - 1) & 1) == 1));
        }
        return w;
    }

    /** The STEP at which it ENDS on a path BY PLAN, times 4, and how: 0 EXERCISED, 1 OUT, 2 else, 3 RECALLED. */
    int endOn(Opt o, int path) {
        boolean in = false;
        for (int t = 0; t < steps() + 1; t++) {
            int j = nodeOn(path, t);
            if (o.barrier == 1 && touched(o, t, j)) {
                return t * 4 + 1;
            }
            in |= o.barrier == 2 && touched(o, t, j);
            if (o.barrier != 2 || in) {
                if (exercises(o, t, j, !in)) {
                    return t * 4;
                }
                if (recalls(o, t, j, !in)) {
                    return t * 4 + 3;
                }
            }
        }
        return steps() * 4 + 2;
    }

    int ways(int k, int t, int j) {
        if (!isOpt(k) || !isNode(t, j)) {
            return -1;
        }
        int found = 0;
        for (int path = 0; path < 1 << t; path++) {
            if (nodeOn(path, t) == j && endOn(s.opts.get(k), path) / 4 >= t) {
                found++;
            }
        }
        return found;
    }

    long ending(int k, int t, int what, int part) {
        check(isOpt(k) && isNode(t, 0) && what >= 0 && what <= 3 && isBit(part));
        Ratio sum = Ratio.ZERO;
        for (int path = 0; path < 1 << steps(); path++) {
            if (endOn(s.opts.get(k), path) == t * 4 + what) {
                sum = sum.plus(weightOf(path));
            }
        }
        return sum.part(part);
    }

    long life(int k, int part) {
        check(isOpt(k) && isBit(part));
        Ratio sum = Ratio.ZERO;
        for (int path = 0; path < 1 << steps(); path++) {
            sum = sum.plus(weightOf(path).times(Ratio.of(endOn(s.opts.get(k), path) / 4)));
        }
        return sum.part(part);
    }

    Ratio gainOn(Opt o, int path, int e) {
        Ratio has = valueOf(o, 0, 0, true);
        boolean in = false;
        for (int t = 0; t <= steps(); t++) {
            int j = nodeOn(path, t);
            boolean touched = touched(o, t, j);
            if (touched && o.barrier == 1) {
                return has.minus(Ratio.of(o.rebate));
            }
            in |= touched;
            boolean alive = o.barrier != 2 || in;
            if (alive && t == e && may(o, t) && payOf(o, t, j).isPositive()) {
                return has.minus(payOf(o, t, j));
            }
            if (alive && recalls(o, t, j, !in)) {
                return has.minus(payOf(o, t, j)).minus(Ratio.of(o.recall));
            }
            if (t < steps()) {
                int rise = stripped(t + 1, nodeOn(path, t + 1)) - stripped(t, j);
                has = has.plus(standsBy(o, t, j, !in).times(Ratio.of(rise)));
            }
        }
        return has;
    }

    long gain(int k, int path, int e, int part) {
        check(isOpt(k) && path >= 0 && path < 1 << steps() && e >= -1 && e <= steps() && isBit(part));
        return gainOn(s.opts.get(k), path, e).part(part);
    }

    int richest(int k, int e) {
        if (!isOpt(k) || e < -1 || e > steps()) {
            return -1;
        }
        int best = 0;
        for (int path = 1; path < 1 << steps(); path++) {
            if (gainOn(s.opts.get(k), path, e).compareTo(gainOn(s.opts.get(k), best, e)) > 0) {
                best = path;
            }
        }
        return best;
    }

    // ---- other terms ----

    int strike(int k, int v) {
        if (!isOpt(k) || s.opts.get(k).kind > 1) {
            return -1;
        }
        Opt o = s.opts.get(k).copy();
        int found = -1;
        for (int strike = 0; strike <= 999; strike++) {
            o.strike = strike;
            boolean better = o.kind == 0 || found < 0;
            if (better && valueOf(o, 0, 0, true).compareTo(Ratio.of(v)) >= 0) {
                found = strike;
            }
        }
        return found;
    }

    long early(int k, int part) {
        check(isOpt(k) && isBit(part));
        Opt o = s.opts.get(k).copy();
        o.may = 13;
        return value0(s.opts.get(k)).minus(value0(o)).part(part);
    }

    private Ratio value0(Opt o) {
        return valueOf(o, 0, 0, true);
    }

    static boolean past(int price, int n, int upper) {
        return upper == 1 ? price >= n : price <= n;
    }

    private Ratio byRule(Opt o, int n, int upper) {
        Ratio sum = Ratio.ZERO;
        for (int path = 0; path < 1 << steps(); path++) {
            sum = sum.plus(weightOf(path).times(paidOn(o, path, n, upper)));
        }
        return sum;
    }

    private Ratio paidOn(Opt o, int path, int n, int upper) {
        boolean in = o.barrier != 2;
        for (int t = 0; t <= steps(); t++) {
            int j = nodeOn(path, t);
            if (o.barrier == 1 && touched(o, t, j)) {
                return Ratio.of(o.rebate);
            }
            in |= touched(o, t, j);
            boolean due = t == steps() || past(priceAt(t, j), n, upper);
            if (in && due && may(o, t) && payOf(o, t, j).isPositive()) {
                return payOf(o, t, j);
            }
        }
        return Ratio.ZERO;
    }

    long worthBy(int k, int n, int upper, int part) {
        check(isOpt(k) && n >= 0 && n <= 2999 && isBit(upper) && isBit(part));
        return byRule(s.opts.get(k), n, upper).part(part);
    }

    int bestBy(int k, int upper) {
        if (!isOpt(k) || !isBit(upper)) {
            return -1;
        }
        int highest = 0;
        for (int t = 0; t <= steps(); t++) {
            highest = Math.max(highest, priceAt(t, t));
        }
        int best = 0;
        Ratio most = byRule(s.opts.get(k), 0, upper);
        // Above the highest PRICE every mark is like the first one there.
        for (int n = 1; n <= highest + 1; n++) {
            Ratio worth = byRule(s.opts.get(k), n, upper);
            if (worth.compareTo(most) > 0) {
                most = worth;
                best = n;
            }
        }
        return best;
    }

    long reach(int n, int upper, int part) {
        check(n >= 0 && n <= 2999 && isBit(upper) && isBit(part));
        Ratio sum = Ratio.ZERO;
        for (int path = 0; path < 1 << steps(); path++) {
            boolean met = false;
            for (int t = 0; t <= steps(); t++) {
                met |= past(priceAt(t, nodeOn(path, t)), n, upper);
            }
            sum = met ? sum.plus(weightOf(path)) : sum;
        }
        return sum.part(part);
    }

    // ---- the BOOK ----

    private Ratio bookAt(int t, int j) {
        Ratio sum = Ratio.ZERO;
        for (Opt o : s.opts) {
            sum = sum.plus(valueOf(o, t, j, true).times(Ratio.of(o.owned)));
        }
        return sum;
    }

    long book(int t, int j, int part) {
        check(isNode(t, j) && isBit(part));
        return bookAt(t, j).part(part);
    }

    long cover(int t, int j, int what, int part) {
        check(isNode(t, j) && isBit(what) && isBit(part));
        Ratio stock = Ratio.ZERO;
        for (Opt o : s.opts) {
            stock = stock.plus(standsOf(o, t, j).times(Ratio.of(o.owned)));
        }
        return (what == 0 ? stock : bookAt(t, j).minus(stock.times(Ratio.of(stripped(t, j))))).part(part);
    }

    int extreme(int what) {
        if (!isBit(what)) {
            return -1;
        }
        int best = 0;
        for (int j = 1; j <= steps(); j++) {
            int c = bookAt(steps(), j).compareTo(bookAt(steps(), best));
            if (what == 0 ? c < 0 : c > 0) {
                best = j;
            }
        }
        return best;
    }

    // ---- changes: whole states are kept, and taken back ----

    private void become(State next) {
        before.add(s);
        if (before.size() > 8) {
            before.remove(0);
        }
        s = next;
        forget();
    }

    int own(int k, int n) {
        if (!isOpt(k) || n < -9 || n > 9) {
            return HIDDEN;
        }
        int were = s.opts.get(k).owned;
        State next = s.copy();
        next.opts.get(k).owned = n;
        become(next);
        return were;
    }

    private int unless(boolean same, State next) {
        if (same) {
            return 1;
        }
        if (next.lowest() < 0) {
            return -1;
        }
        become(next);
        return 0;
    }

    int move(int n) {
        if (n < 0 || n > 999) {
            return -1;
        }
        State next = s.copy();
        next.first = n;
        return unless(n == s.first, next);
    }

    int fall(int t, int n) {
        if (t < 1 || t > steps() || n < 1 || n > s.width - 1) {
            return -1;
        }
        State next = s.copy();
        next.falls.set(t - 1, n);
        return unless(n == s.falls.get(t - 1), next);
    }

    int cash(int t, int n) {
        if (t < 0 || t > steps() || n < 0 || n > 99) {
            return -1;
        }
        State next = s.copy();
        next.cash.put(t, n);
        return unless(n == cashAt(t), next);
    }

    int restrike(int k, int n) {
        if (!isOpt(k) || n < 0 || n > 999 || s.opts.get(k).kind == 3 && n >= s.opts.get(k).second) {
            return -1;
        }
        State next = s.copy();
        next.opts.get(k).strike = n;
        return unless(n == s.opts.get(k).strike, next);
    }

    int undo() {
        if (before.isEmpty()) {
            return -1;
        }
        s = before.remove(before.size() - 1);
        forget();
        return before.size();
    }

    boolean image(int k) {
        if (!isBit(k)) {
            return false;
        }
        images[k] = s.copy();
        return true;
    }

    boolean restore(int k) {
        if (!isBit(k) || images[k] == null) {
            return false;
        }
        s = images[k].copy();
        before.clear();
        forget();
        return true;
    }
}
