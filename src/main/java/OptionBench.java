import java.util.NoSuchElementException;

/** A bench for options on a lattice of prices; words in capitals are the document's. */
public final class OptionBench {
    public static final int NONE = -1;
    public static final int HIDDEN = -1000000;

    private static final int MOST_STEPS = 12;
    private static final int MOST_OPTIONS = 4;
    private static final int MOST_NODES = 91;
    private static final int MOST_TEXT = 500;
    private static final int MOST_TAPE = 540;
    private static final int MOST_ACTS = 8;
    private static final int MOST_STRIKE = 999;
    private static final int MOST_MARK = 2999;
    private static final int MOST_OWNED = 9;
    private static final int BYTES_A_FEED = 20;
    private static final int IMAGES = 2;

    private static final int CALL = 0;
    private static final int PUT = 1;
    private static final int DIGIT = 2;
    private static final int SPREAD = 3;
    private static final int EITHER = 4;
    private static final int OVER = 5;

    private static final int UNBARRED = 0;
    private static final int OUT = 1;
    private static final int IN = 2;

    private static final int IS_HELD = 0;
    private static final int IS_EXERCISED = 1;
    private static final int IS_OUT = 2;
    private static final int IS_IN = 3;
    private static final int IS_RECALLED = 4;

    // Behind every STEP: an OPTION that MAY be exercised from there on has the last STEP alone.
    private static final int ONCE = MOST_STEPS + 1;

    private final byte[] tape = new byte[MOST_TAPE];
    private int taped = 0;
    private int faultKind = 0;
    private final Market market = new Market();
    private final Market[] images = new Market[IMAGES];
    private final boolean[] imaged = new boolean[IMAGES];
    private final Reader reader = new Reader(tape);
    private final Acts acts = new Acts();
    private final Lattice lattice = new Lattice(market);
    private final Plan plan = new Plan(lattice);
    private final Hedge hedge = new Hedge(lattice);
    private final Rule rule = new Rule(lattice);

    public OptionBench() {
        for (int k = 0; k < IMAGES; k++) {
            images[k] = new Market();
        }
    }

    // ---- the tape and the BENCH ----

    public int feed(int a, int b, int c, int d, int e) {
        if (taped + BYTES_A_FEED > MOST_TAPE) {
            return NONE;
        }
        append(a);
        append(b);
        append(c);
        append(d);
        append(e);
        return taped;
    }

    private void append(int number) {
        for (int shift = 24; shift >= 0; shift -= 8) {
            tape[taped] = (byte) (number >>> shift);
            taped++;
        }
    }

    public boolean end(int n) {
        if (n < 0 || n > taped) {
            return false;
        }
        taped = n;
        return true;
    }

    public int bench() {
        boolean read = reader.readText(taped);
        taped = 0;
        faultKind = reader.faultKind;
        if (!read) {
            return -1000 - reader.faultPlace;
        }
        market.copyFrom(reader.draft);
        acts.size = 0;
        lattice.stale = true;
        return market.options;
    }

    public int fault() {
        return faultKind;
    }

    // ---- what the BENCH says ----

    public int count(int what) {
        switch (what) {
            case 0:
                return market.steps;
            case 1:
                return market.options;
            case 2:
                return market.width;
            case 3:
                return market.start;
            case 4:
                return market.cashFrom(0);
            case 5:
                return acts.size;
            case 6:
                return taped;
            default:
                return NONE;
        }
    }

    public int step(int t, int what) {
        if (what == 0 && t >= 1 && t <= market.steps) {
            return market.falls[t];
        }
        if (what == 1 && isStep(t)) {
            return market.cashes[t];
        }
        return NONE;
    }

    public int option(int k, int what) {
        if (!isOption(k)) {
            return HIDDEN;
        }
        Contract c = market.contracts[k];
        switch (what) {
            case 0:
                return c.kind;
            case 1:
                return c.strikeAt;
            case 2:
                return c.extra;
            case 3:
                return Math.min(c.from, market.steps);
            case 4:
                return c.barrier;
            case 5:
                return c.side;
            case 6:
                return c.level;
            case 7:
                return c.rebate;
            case 8:
                return c.owned;
            case 9:
                return c.recall;
            default:
                return HIDDEN;
        }
    }

    public int price(int t, int j, int what) {
        if (!isNode(t, j)) {
            return NONE;
        }
        lattice.refresh();
        int node = nodeAt(t, j);
        switch (what) {
            case 0:
                return lattice.prices[node];
            case 1:
                return lattice.prices[node] - market.cashes[t];
            case 2:
                return lattice.stripped[node];
            default:
                return NONE;
        }
    }

    // ---- an OPTION at a NODE ----

    public long pays(int k, int t, int j, int part) throws NoSuchElementException {
        require(isOption(k) && isNode(t, j) && isBit(part));
        return told(sheetOf(k).pays[nodeAt(t, j)], lattice.scaleAt(t), part);
    }

    public long value(int k, int t, int j, int part) throws NoSuchElementException {
        require(isOption(k) && isNode(t, j) && isBit(part));
        return told(sheetOf(k).barred.worth[nodeAt(t, j)], lattice.scaleAt(t), part);
    }

    public long plain(int k, int t, int j, int part) throws NoSuchElementException {
        require(isOption(k) && isNode(t, j) && isBit(part));
        return told(sheetOf(k).plain.worth[nodeAt(t, j)], lattice.scaleAt(t), part);
    }

    public long held(int k, int t, int j, int part) throws NoSuchElementException {
        require(isOption(k) && isNode(t, j) && isBit(part));
        long[] worth = sheetOf(k).barred.worth;
        return told(lattice.heldOf(worth, t, nodeAt(t, j)), lattice.scaleAt(t), part);
    }

    public int does(int k, int t, int j) {
        if (!isOption(k) || !isNode(t, j)) {
            return NONE;
        }
        return sheetOf(k).barred.doing[nodeAt(t, j)];
    }

    public long stands(int k, int t, int j, int part) throws NoSuchElementException {
        require(isOption(k) && isNode(t, j) && isBit(part));
        return told(lattice.standing(sheetOf(k), t, nodeAt(t, j)), lattice.scaleAt(t), part);
    }

    public int frontier(int k, int t) {
        if (!isOption(k) || !isStep(t)) {
            return NONE;
        }
        int[] doing = sheetOf(k).barred.doing;
        int bits = 0;
        for (int j = 0; j <= t; j++) {
            if (doing[nodeAt(t, j)] == IS_EXERCISED) {
                bits |= 1 << j;
            }
        }
        return bits;
    }

    // ---- BY PLAN ----

    public int ways(int k, int t, int j) {
        if (!isOption(k) || !isNode(t, j)) {
            return NONE;
        }
        plan.follow(sheetOf(k), true);
        return (int) plan.comingTo(nodeAt(t, j));
    }

    public long ending(int k, int t, int what, int part) throws NoSuchElementException {
        require(isOption(k) && isStep(t) && what >= 0 && what < Plan.ENDS && isBit(part));
        Sheet sheet = sheetOf(k);
        plan.follow(sheet, false);
        return told(plan.endingAt(sheet, t, what), lattice.powers[t], part);
    }

    public long life(int k, int part) throws NoSuchElementException {
        require(isOption(k) && isBit(part));
        Sheet sheet = sheetOf(k);
        plan.follow(sheet, false);
        return told(plan.lifeOf(sheet), lattice.scaleAt(0), part);
    }

    // ---- the WRITER ----

    public long gain(int k, int path, int e, int part) throws NoSuchElementException {
        require(isOption(k) && isPath(path) && isExercise(e) && isBit(part));
        return told(hedge.leftAlong(sheetOf(k), market.contracts[k], path, e), lattice.scaleAt(0), part);
    }

    public int richest(int k, int e) {
        if (!isOption(k) || !isExercise(e)) {
            return NONE;
        }
        return hedge.richestPath(sheetOf(k), market.contracts[k], e);
    }

    // ---- other terms for an OPTION ----

    public int strike(int k, int v) {
        if (!isOption(k)) {
            return NONE;
        }
        Contract c = market.contracts[k];
        if (c.kind != CALL && c.kind != PUT) {
            return NONE;
        }
        lattice.refresh();
        return boundingStrike(c, v);
    }

    /** VALUE never rises with K of a call and never falls with K of a put, so halving finds the bound. */
    private int boundingStrike(Contract c, int v) {
        // Every VALUE is within these bounds, and the product of a v far outside could wrap.
        long due = Math.max(0, Math.min(v, MOST_MARK)) * lattice.scaleAt(0);
        boolean ofCall = c.kind == CALL;
        int met = NONE;
        int low = 0;
        int high = MOST_STRIKE;
        for (int round = 0; low <= high && round <= MOST_STRIKE; round++) {
            int middle = (low + high) / 2;
            boolean meets = lattice.startWorth(c, middle, c.from) >= due;
            if (meets) {
                met = middle;
            }
            if (meets == ofCall) {
                low = middle + 1;
            } else {
                high = middle - 1;
            }
        }
        return met;
    }

    public long early(int k, int part) throws NoSuchElementException {
        require(isOption(k) && isBit(part));
        Contract c = market.contracts[k];
        long worth = sheetOf(k).barred.worth[0];
        return told(worth - lattice.startWorth(c, c.strikeAt, ONCE), lattice.scaleAt(0), part);
    }

    public long worthBy(int k, int n, int upper, int part) throws NoSuchElementException {
        require(isOption(k) && isMark(n) && isBit(upper) && isBit(part));
        return told(rule.worthOf(sheetOf(k), market.contracts[k], n, upper), lattice.scaleAt(0), part);
    }

    public int bestBy(int k, int upper) {
        if (!isOption(k) || !isBit(upper)) {
            return NONE;
        }
        return rule.bestMark(sheetOf(k), market.contracts[k], upper);
    }

    public long reach(int n, int upper, int part) throws NoSuchElementException {
        require(isMark(n) && isBit(upper) && isBit(part));
        lattice.refresh();
        return told(rule.oddsOf(n, upper), lattice.scaleAt(0), part);
    }

    // ---- the BOOK ----

    public int own(int k, int n) {
        if (!isOption(k) || n < -MOST_OWNED || n > MOST_OWNED) {
            return HIDDEN;
        }
        int were = market.contracts[k].owned;
        change(Acts.OWN, k, n);
        return were;
    }

    public long book(int t, int j, int part) throws NoSuchElementException {
        require(isNode(t, j) && isBit(part));
        lattice.refresh();
        return told(bookWorth(nodeAt(t, j)), lattice.scaleAt(t), part);
    }

    private long bookWorth(int node) {
        long sum = 0;
        for (int k = 0; k < market.options; k++) {
            sum += market.contracts[k].owned * lattice.sheets[k].barred.worth[node];
        }
        return sum;
    }

    public long cover(int t, int j, int what, int part) throws NoSuchElementException {
        require(isNode(t, j) && isBit(what) && isBit(part));
        lattice.refresh();
        int node = nodeAt(t, j);
        long stock = 0;
        for (int k = 0; k < market.options; k++) {
            stock += market.contracts[k].owned * lattice.standing(lattice.sheets[k], t, node);
        }
        long sum = what == 0 ? stock : bookWorth(node) - stock * lattice.stripped[node];
        return told(sum, lattice.scaleAt(t), part);
    }

    public int extreme(int what) {
        if (!isBit(what)) {
            return NONE;
        }
        lattice.refresh();
        int t = market.steps;
        int found = 0;
        long worth = bookWorth(nodeAt(t, 0));
        for (int j = 1; j <= t; j++) {
            long next = bookWorth(nodeAt(t, j));
            if (what == 0 ? next < worth : next > worth) {
                worth = next;
                found = j;
            }
        }
        return found;
    }

    // ---- told anew, undone ----

    public int move(int n) {
        if (n < 0 || n > MOST_STRIKE || market.lowest() - market.start + n < 0) {
            return NONE;
        }
        return changed(Acts.MOVE, 0, n);
    }

    public int fall(int t, int n) {
        if (t < 1 || t > market.steps || n < 1 || n >= market.width) {
            return NONE;
        }
        if (market.lowest() + market.falls[t] - n < 0) {
            return NONE;
        }
        return changed(Acts.FALL, t, n);
    }

    public int cash(int t, int n) {
        if (!isStep(t) || n < 0 || n > 99) {
            return NONE;
        }
        return changed(Acts.CASH, t, n);
    }

    public int restrike(int k, int n) {
        if (!isOption(k) || n < 0 || n > MOST_STRIKE) {
            return NONE;
        }
        Contract c = market.contracts[k];
        if (c.kind == SPREAD && n >= c.extra) {
            return NONE;
        }
        return changed(Acts.RESTRIKE, k, n);
    }

    private int changed(int what, int where, int n) {
        if (market.current(what, where) == n) {
            return 1;
        }
        change(what, where, n);
        return 0;
    }

    private void change(int what, int where, int n) {
        acts.keep(what, where, market.current(what, where));
        tell(what, where, n);
    }

    private void tell(int what, int where, int n) {
        market.tell(what, where, n);
        // The BOOK is in no sheet: they stand when only it has changed.
        if (what != Acts.OWN) {
            lattice.stale = true;
        }
    }

    public int undo() {
        if (acts.size == 0) {
            return NONE;
        }
        int last = acts.size - 1;
        acts.size = last;
        tell(acts.whats[last], acts.wheres[last], acts.were[last]);
        return last;
    }

    public boolean image(int k) {
        if (k < 0 || k >= IMAGES) {
            return false;
        }
        images[k].copyFrom(market);
        imaged[k] = true;
        return true;
    }

    public boolean restore(int k) {
        if (k < 0 || k >= IMAGES || !imaged[k]) {
            return false;
        }
        market.copyFrom(images[k]);
        acts.size = 0;
        lattice.stale = true;
        return true;
    }

    // ---- what is there, and how a fraction is told ----

    private boolean isOption(int k) {
        return k >= 0 && k < market.options;
    }

    private boolean isStep(int t) {
        return t >= 0 && t <= market.steps;
    }

    private boolean isNode(int t, int j) {
        return isStep(t) && j >= 0 && j <= t;
    }

    private boolean isPath(int path) {
        return path >= 0 && path < 1 << market.steps;
    }

    private boolean isExercise(int e) {
        return e == NONE || isStep(e);
    }

    private static boolean isBit(int n) {
        return n == 0 || n == 1;
    }

    private static boolean isMark(int n) {
        return n >= 0 && n <= MOST_MARK;
    }

    private static void require(boolean found) {
        if (!found) {
            throw new NoSuchElementException();
        }
    }

    private Sheet sheetOf(int k) {
        lattice.refresh();
        return lattice.sheets[k];
    }

    private static int nodeAt(int t, int j) {
        return t * (t + 1) / 2 + j;
    }

    private static boolean isPast(int price, int level, int side) {
        return side == 1 ? price >= level : price <= level;
    }

    private static long told(long above, long below, int part) {
        long divisor = commonDivisor(Math.abs(above), below);
        if (divisor < 1) {
            return part;
        }
        return part == 0 ? above / divisor : below / divisor;
    }

    private static long commonDivisor(long a, long b) {
        long greater = a;
        long less = b;
        // Euclid's rests at least halve in two rounds, so 63 bits need no more than these.
        for (int round = 0; less != 0 && round < 130; round++) {
            long rest = greater % less;
            greater = less;
            less = rest;
        }
        return greater;
    }

    /** An OPTION as it is told, and how many of it the BOOK has. */
    private static final class Contract {
        int kind;
        int strikeAt;
        int extra;
        int from;
        int barrier;
        int side;
        int level;
        int rebate;
        int recall;
        int owned;

        void clear() {
            kind = CALL;
            strikeAt = 0;
            extra = NONE;
            from = ONCE;
            barrier = UNBARRED;
            side = NONE;
            level = NONE;
            rebate = 0;
            recall = NONE;
            owned = 0;
        }

        void copyFrom(Contract other) {
            kind = other.kind;
            strikeAt = other.strikeAt;
            extra = other.extra;
            from = other.from;
            barrier = other.barrier;
            side = other.side;
            level = other.level;
            rebate = other.rebate;
            recall = other.recall;
            owned = other.owned;
        }
    }

    /** A BENCH and its BOOK. */
    private static final class Market {
        final int[] falls = new int[MOST_STEPS + 1];
        final int[] cashes = new int[MOST_STEPS + 1];
        final Contract[] contracts = new Contract[MOST_OPTIONS];
        int start = 100;
        int width = 2;
        int steps = 0;
        int options = 0;

        Market() {
            for (int k = 0; k < MOST_OPTIONS; k++) {
                contracts[k] = new Contract();
            }
        }

        void clear() {
            start = 100;
            width = 2;
            steps = 0;
            options = 0;
            for (int t = 0; t <= MOST_STEPS; t++) {
                falls[t] = 0;
                cashes[t] = 0;
            }
        }

        void copyFrom(Market other) {
            start = other.start;
            width = other.width;
            steps = other.steps;
            options = other.options;
            for (int t = 0; t <= MOST_STEPS; t++) {
                falls[t] = other.falls[t];
                cashes[t] = other.cashes[t];
            }
            for (int k = 0; k < MOST_OPTIONS; k++) {
                contracts[k].copyFrom(other.contracts[k]);
            }
        }

        void addSteps(int fallOfEach, int times) {
            for (int i = 0; i < times && steps < MOST_STEPS; i++) {
                steps++;
                falls[steps] = fallOfEach;
            }
        }

        int lowest() {
            int least = start;
            for (int t = 1; t <= steps; t++) {
                least -= falls[t];
            }
            return least;
        }

        int cashFrom(int first) {
            int sum = 0;
            for (int t = first; t <= steps; t++) {
                sum += cashes[t];
            }
            return sum;
        }

        int current(int what, int where) {
            switch (what) {
                case Acts.OWN:
                    return contracts[where].owned;
                case Acts.MOVE:
                    return start;
                case Acts.FALL:
                    return falls[where];
                case Acts.CASH:
                    return cashes[where];
                default:
                    return contracts[where].strikeAt;
            }
        }

        void tell(int what, int where, int n) {
            switch (what) {
                case Acts.OWN:
                    contracts[where].owned = n;
                    break;
                case Acts.MOVE:
                    start = n;
                    break;
                case Acts.FALL:
                    falls[where] = n;
                    break;
                case Acts.CASH:
                    cashes[where] = n;
                    break;
                default:
                    contracts[where].strikeAt = n;
                    break;
            }
        }
    }

    /** What can be undone, the latest last: what was changed where, and what it was. */
    private static final class Acts {
        static final int OWN = 0;
        static final int MOVE = 1;
        static final int FALL = 2;
        static final int CASH = 3;
        static final int RESTRIKE = 4;

        final int[] whats = new int[MOST_ACTS];
        final int[] wheres = new int[MOST_ACTS];
        final int[] were = new int[MOST_ACTS];
        int size = 0;

        void keep(int what, int where, int was) {
            if (size == MOST_ACTS) {
                dropFirst();
            }
            whats[size] = what;
            wheres[size] = where;
            were[size] = was;
            size++;
        }

        private void dropFirst() {
            for (int i = 1; i < size; i++) {
                whats[i - 1] = whats[i];
                wheres[i - 1] = wheres[i];
                were[i - 1] = were[i];
            }
            size--;
        }
    }

    /** All tokens of a text. None is a FAULT here: that depends on where it stands. */
    private static final class Tokens {
        static final int AT_END = 0;
        static final int BAD = 1;
        static final int SEMICOLON = 2;
        static final int NUMBER = 3;
        static final int NAME = 4;
        static final int KEYWORD = 5;

        static final int STOCK = 6;
        static final int STEP = 7;
        static final int CASH = 8;
        static final int OPTION = 9;
        static final int TIMES = 10;
        static final int WHEN_ONCE = 11;
        static final int WHEN_ANY = 12;
        static final int WHEN_FROM = 13;
        static final int GOES_OUT = 14;
        static final int COMES_IN = 15;
        static final int ABOVE = 16;
        static final int BELOW = 17;
        static final int REBATE = 18;
        static final int RECALL = 19;

        // In the order of their numbers: first the KINDS by theirs, then those above.
        private static final String KEYWORDS =
                "call put digit spread either over stock step cash option times once any from out in above below rebate recall ";
        private static final int KEYWORDS_IN_ALL = 20;
        private static final int LONGEST_WORD = 8;
        private static final int LONGEST_NUMBER = 3;

        final int[] kinds = new int[MOST_TEXT + 1];
        final int[] places = new int[MOST_TEXT + 1];
        final long[] values = new long[MOST_TEXT + 1];
        private final byte[] text;
        private final long[] keywords = new long[KEYWORDS_IN_ALL];

        Tokens(byte[] text) {
            this.text = text;
            int word = 0;
            for (int i = 0; i < KEYWORDS.length() && word < KEYWORDS_IN_ALL; i++) {
                char sign = KEYWORDS.charAt(i);
                if (sign == ' ') {
                    word++;
                } else {
                    keywords[word] = spelt(keywords[word], sign);
                }
            }
        }

        /** Five bits a letter: every word has a number of its own. */
        private static long spelt(long word, int letter) {
            return word * 32 + letter - 'a' + 1;
        }

        void scan(int length) {
            int size = 0;
            int at = 0;
            while (at < length && size < MOST_TEXT) {
                int behind = runEnd(at, length);
                places[size] = at;
                if (behind > at) {
                    sort(size, at, behind);
                    size++;
                } else if (text[at] != ' ') {
                    kinds[size] = text[at] == ';' ? SEMICOLON : BAD;
                    size++;
                }
                at = Math.max(behind, at + 1);
            }
            kinds[size] = AT_END;
            places[size] = length;
        }

        private int runEnd(int start, int length) {
            int at = start;
            while (at < length && (isLetter(text[at]) || isFigure(text[at]))) {
                at++;
            }
            return at;
        }

        private void sort(int token, int start, int behind) {
            int figures = 0;
            long sum = 0;
            long word = 0;
            for (int at = start; at < behind; at++) {
                if (isFigure(text[at])) {
                    figures++;
                    sum = sum * 10 + text[at] - '0';
                } else {
                    word = spelt(word, text[at]);
                }
            }
            int size = behind - start;
            kinds[token] = BAD;
            if (figures == size && size <= LONGEST_NUMBER) {
                kinds[token] = NUMBER;
                values[token] = sum;
            } else if (figures == 0 && size <= LONGEST_WORD) {
                int keyword = keywordOf(word);
                kinds[token] = keyword == NONE ? NAME : KEYWORD;
                values[token] = keyword == NONE ? word : keyword;
            }
        }

        private int keywordOf(long word) {
            for (int keyword = 0; keyword < KEYWORDS_IN_ALL; keyword++) {
                if (keywords[keyword] == word) {
                    return keyword;
                }
            }
            return NONE;
        }

        private static boolean isLetter(byte sign) {
            return sign >= 'a' && sign <= 'z';
        }

        private static boolean isFigure(byte sign) {
            return sign >= '0' && sign <= '9';
        }
    }

    /** Reads a text into a draft, which counts only if there was no FAULT. */
    private static final class Reader {
        final Market draft = new Market();
        int faultKind = 0;
        int faultPlace = 0;
        private final Tokens tokens;
        private final long[] names = new long[MOST_OPTIONS];
        private int at = 0;
        private int number = 0;
        private int numberPlace = 0;

        Reader(byte[] text) {
            tokens = new Tokens(text);
        }

        boolean readText(int length) {
            faultKind = 0;
            faultPlace = 0;
            draft.clear();
            at = 0;
            if (length > MOST_TEXT) {
                return failsAt(1, MOST_TEXT);
            }
            tokens.scan(length);
            for (int line = 0; !isNext(Tokens.AT_END) && line <= length; line++) {
                if (!readLine(line == 0)) {
                    return false;
                }
                if (!isNext(Tokens.SEMICOLON)) {
                    return fails(1);
                }
                pass();
            }
            return true;
        }

        private boolean fails(int kind) {
            return failsAt(kind, tokens.places[at]);
        }

        private boolean failsAt(int kind, int place) {
            faultKind = kind;
            faultPlace = place;
            return false;
        }

        private boolean isNext(int kind) {
            return tokens.kinds[at] == kind;
        }

        private boolean isKeyword(int keyword) {
            return isNext(Tokens.KEYWORD) && tokens.values[at] == keyword;
        }

        private void pass() {
            if (tokens.kinds[at] != Tokens.AT_END) {
                at++;
            }
        }

        private boolean readLine(boolean first) {
            if (first && isKeyword(Tokens.STOCK)) {
                return readStock();
            }
            if (isKeyword(Tokens.STEP)) {
                return readStep();
            }
            if (isKeyword(Tokens.CASH)) {
                return readCash();
            }
            if (isKeyword(Tokens.OPTION)) {
                return readOption();
            }
            return fails(1);
        }

        private boolean readStock() {
            pass();
            if (!readNumber(0, 999)) {
                return false;
            }
            draft.start = number;
            if (!readNumber(2, 9)) {
                return false;
            }
            draft.width = number;
            return true;
        }

        private boolean readStep() {
            if (draft.steps >= MOST_STEPS) {
                return fails(4);
            }
            pass();
            if (!readNumber(1, draft.width - 1)) {
                return false;
            }
            int fallOfEach = number;
            int times = 1;
            if (isKeyword(Tokens.TIMES)) {
                pass();
                if (!readNumber(1, MOST_STEPS - draft.steps)) {
                    return false;
                }
                times = number;
            }
            if (draft.lowest() - fallOfEach * times < 0) {
                return failsAt(2, numberPlace);
            }
            draft.addSteps(fallOfEach, times);
            return true;
        }

        private boolean readCash() {
            if (draft.cashes[draft.steps] != 0) {
                return fails(3);
            }
            pass();
            if (!readNumber(1, 99)) {
                return false;
            }
            draft.cashes[draft.steps] = number;
            return true;
        }

        private boolean readOption() {
            int k = draft.options;
            if (k >= MOST_OPTIONS) {
                return fails(4);
            }
            Contract c = draft.contracts[k];
            c.clear();
            pass();
            if (!readNewName(k)) {
                return false;
            }
            if (!readKind(c) || !readWhen(c) || !readBarrier(c) || !readRebate(c) || !readRecall(c)) {
                return false;
            }
            draft.options = k + 1;
            return true;
        }

        private boolean readNewName(int k) {
            if (!isNext(Tokens.NAME)) {
                return fails(1);
            }
            if (namedOption() != NONE) {
                return fails(3);
            }
            names[k] = tokens.values[at];
            pass();
            return true;
        }

        private int namedOption() {
            for (int k = 0; k < draft.options; k++) {
                if (names[k] == tokens.values[at]) {
                    return k;
                }
            }
            return NONE;
        }

        private boolean readKind(Contract c) {
            if (!isNext(Tokens.KEYWORD) || tokens.values[at] > OVER) {
                return fails(1);
            }
            c.kind = (int) tokens.values[at];
            pass();
            if (c.kind == OVER && !readOther(c)) {
                return false;
            }
            if (!readNumber(0, 999)) {
                return false;
            }
            c.strikeAt = number;
            if (c.kind != DIGIT && c.kind != SPREAD) {
                return true;
            }
            boolean read = c.kind == DIGIT ? readNumber(1, 99) : readNumber(c.strikeAt + 1, 999);
            c.extra = number;
            return read;
        }

        private boolean readOther(Contract c) {
            if (!isNext(Tokens.NAME)) {
                return fails(1);
            }
            c.extra = namedOption();
            if (c.extra == NONE) {
                return fails(3);
            }
            pass();
            return true;
        }

        private boolean readWhen(Contract c) {
            if (isKeyword(Tokens.WHEN_ONCE)) {
                pass();
            } else if (isKeyword(Tokens.WHEN_ANY)) {
                c.from = 0;
                pass();
            } else if (isKeyword(Tokens.WHEN_FROM)) {
                pass();
                if (!readNumber(0, MOST_STEPS)) {
                    return false;
                }
                c.from = number;
            }
            return true;
        }

        private boolean readBarrier(Contract c) {
            boolean goesOut = isKeyword(Tokens.GOES_OUT);
            if (!goesOut && !isKeyword(Tokens.COMES_IN)) {
                return true;
            }
            c.barrier = goesOut ? OUT : IN;
            pass();
            if (!isKeyword(Tokens.ABOVE) && !isKeyword(Tokens.BELOW)) {
                return fails(1);
            }
            c.side = isKeyword(Tokens.ABOVE) ? 1 : 0;
            pass();
            if (!readNumber(0, 999)) {
                return false;
            }
            c.level = number;
            return true;
        }

        private boolean readRebate(Contract c) {
            if (c.barrier == OUT && isKeyword(Tokens.REBATE)) {
                pass();
                if (!readNumber(0, 99)) {
                    return false;
                }
                c.rebate = number;
            }
            return true;
        }

        private boolean readRecall(Contract c) {
            if (isKeyword(Tokens.RECALL)) {
                pass();
                if (!readNumber(1, 99)) {
                    return false;
                }
                c.recall = number;
            }
            return true;
        }

        private boolean readNumber(int least, int most) {
            if (!isNext(Tokens.NUMBER)) {
                return fails(1);
            }
            if (tokens.values[at] < least || tokens.values[at] > most) {
                return fails(2);
            }
            number = (int) tokens.values[at];
            numberPlace = tokens.places[at];
            pass();
            return true;
        }
    }

    /** Worths at all NODES, and what the OPTION DOES there. */
    private static final class Layer {
        final long[] worth = new long[MOST_NODES];
        final int[] doing = new int[MOST_NODES];
    }

    /** An OPTION at all NODES: with its BARRIER, and without. */
    private static final class Sheet {
        final long[] pays = new long[MOST_NODES];
        final Layer plain = new Layer();
        final Layer barred = new Layer();
    }

    /**
     * All NODES of the BENCH. A worth at STEP t is a whole number over WIDTH to the power of the STEPS behind t:
     * so sums and comparisons are exact, and the greatest (36 OPTIONS' STANDS times STRIPPED) is below 2^62.
     */
    private static final class Lattice {
        final Market market;
        final int[] stripped = new int[MOST_NODES];
        final int[] prices = new int[MOST_NODES];
        final long[] powers = new long[MOST_STEPS + 1];
        final Sheet[] sheets = new Sheet[MOST_OPTIONS];
        final Sheet trial = new Sheet();
        boolean stale = true;

        Lattice(Market market) {
            this.market = market;
            for (int k = 0; k < MOST_OPTIONS; k++) {
                sheets[k] = new Sheet();
            }
        }

        long scaleAt(int t) {
            return powers[market.steps - t];
        }

        void refresh() {
            if (!stale) {
                return;
            }
            stale = false;
            fillPowers();
            fillPrices();
            // In the order told: what is over another OPTION needs that one's sheet.
            for (int k = 0; k < market.options; k++) {
                Contract c = market.contracts[k];
                fill(sheets[k], c, c.strikeAt, c.from);
            }
        }

        private void fillPowers() {
            powers[0] = 1;
            for (int i = 1; i <= MOST_STEPS; i++) {
                powers[i] = powers[i - 1] * market.width;
            }
        }

        private void fillPrices() {
            int lowest = market.start;
            for (int t = 0; t <= market.steps; t++) {
                // The start has no FALL: its place in the row is 0.
                lowest -= market.falls[t];
                int coming = market.cashFrom(t);
                for (int j = 0; j <= t; j++) {
                    int node = nodeAt(t, j);
                    stripped[node] = lowest + j * market.width;
                    prices[node] = stripped[node] + coming;
                }
            }
        }

        /** VALUE at the start under other terms; the OPTION's own sheet stays. */
        long startWorth(Contract c, int strikeAt, int from) {
            fill(trial, c, strikeAt, from);
            return trial.barred.worth[0];
        }

        private void fill(Sheet sheet, Contract c, int strikeAt, int from) {
            for (int t = market.steps; t >= 0; t--) {
                boolean may = may(t, from);
                for (int j = 0; j <= t; j++) {
                    int node = nodeAt(t, j);
                    sheet.pays[node] = payOf(c, strikeAt, node, scaleAt(t));
                    decide(sheet.plain, sheet.pays[node], c, t, node, may);
                    bar(sheet, c, t, node, may);
                }
            }
        }

        boolean may(int t, int from) {
            return t >= from || t == market.steps;
        }

        private long payOf(Contract c, int strikeAt, int node, long scale) {
            if (c.kind == OVER) {
                return Math.max(0, sheets[c.extra].barred.worth[node] - strikeAt * scale);
            }
            return Math.max(0, wholePay(c, strikeAt, prices[node])) * scale;
        }

        private static int wholePay(Contract c, int strikeAt, int price) {
            switch (c.kind) {
                case CALL:
                    return price - strikeAt;
                case PUT:
                    return strikeAt - price;
                case DIGIT:
                    return price >= strikeAt ? c.extra : 0;
                case SPREAD:
                    return Math.min(price, c.extra) - strikeAt;
                case EITHER:
                    return Math.abs(price - strikeAt);
                default:
                    return 0;
            }
        }

        private void decide(Layer layer, long pay, Contract c, int t, int node, boolean may) {
            long held = heldOf(layer.worth, t, node);
            long kept = held;
            if (c.recall != NONE) {
                kept = Math.min(held, pay + c.recall * scaleAt(t));
            }
            boolean exercised = may && pay > 0 && pay >= kept;
            layer.worth[node] = exercised ? pay : kept;
            layer.doing[node] = exercised ? IS_EXERCISED : kept < held ? IS_RECALLED : IS_HELD;
        }

        private void bar(Sheet sheet, Contract c, int t, int node, boolean may) {
            Layer layer = sheet.barred;
            if (c.barrier == UNBARRED) {
                layer.worth[node] = sheet.plain.worth[node];
                layer.doing[node] = sheet.plain.doing[node];
            } else if (isTouched(c, node)) {
                layer.worth[node] = c.barrier == OUT ? c.rebate * scaleAt(t) : sheet.plain.worth[node];
                layer.doing[node] = c.barrier == OUT ? IS_OUT : IS_IN;
            } else if (c.barrier == IN) {
                layer.worth[node] = heldOf(layer.worth, t, node);
                layer.doing[node] = IS_HELD;
            } else {
                decide(layer, sheet.pays[node], c, t, node, may);
            }
        }

        boolean isTouched(Contract c, int node) {
            return c.barrier != UNBARRED && isPast(prices[node], c.level, c.side);
        }

        long heldOf(long[] worth, int t, int node) {
            if (t >= market.steps) {
                return 0;
            }
            int up = market.falls[t + 1];
            return up * worth[upFrom(t, node)] + (market.width - up) * worth[downFrom(t, node)];
        }

        int upFrom(int t, int node) {
            return node + t + 2;
        }

        int downFrom(int t, int node) {
            return node + t + 1;
        }

        long standing(Sheet sheet, int t, int node) {
            int doing = sheet.barred.doing[node];
            if (doing == IS_OUT) {
                return 0;
            }
            return standingBy(doing == IS_IN ? sheet.plain : sheet.barred, t, node);
        }

        long standingBy(Layer layer, int t, int node) {
            if (t >= market.steps) {
                return 0;
            }
            return layer.worth[upFrom(t, node)] - layer.worth[downFrom(t, node)];
        }
    }

    /** What comes to each NODE BY PLAN, by paths or by weights, before it came IN and from IN on. */
    private static final class Plan {
        static final int ENDS = 4;
        private static final int ENDS_EXERCISED = 0;
        private static final int ENDS_OUT = 1;
        private static final int ENDS_ELSE = 2;
        private static final int ENDS_RECALLED = 3;

        private final Lattice lattice;
        private final long[] outside = new long[MOST_NODES];
        private final long[] inside = new long[MOST_NODES];

        Plan(Lattice lattice) {
            this.lattice = lattice;
        }

        long comingTo(int node) {
            return outside[node] + inside[node];
        }

        void follow(Sheet sheet, boolean byPaths) {
            for (int node = 0; node < MOST_NODES; node++) {
                outside[node] = 0;
                inside[node] = 0;
            }
            outside[0] = 1;
            for (int t = 0; t <= lattice.market.steps; t++) {
                for (int j = 0; j <= t; j++) {
                    pass(sheet, t, nodeAt(t, j), byPaths);
                }
            }
        }

        private void pass(Sheet sheet, int t, int node, boolean byPaths) {
            if (sheet.barred.doing[node] == IS_IN) {
                inside[node] += outside[node];
                outside[node] = 0;
            }
            if (t >= lattice.market.steps) {
                return;
            }
            int up = byPaths ? 1 : lattice.market.falls[t + 1];
            int down = byPaths ? 1 : lattice.market.width - up;
            if (endOf(sheet.barred.doing[node], t) == NONE) {
                outside[lattice.upFrom(t, node)] += outside[node] * up;
                outside[lattice.downFrom(t, node)] += outside[node] * down;
            }
            if (endOf(sheet.plain.doing[node], t) == NONE) {
                inside[lattice.upFrom(t, node)] += inside[node] * up;
                inside[lattice.downFrom(t, node)] += inside[node] * down;
            }
        }

        private int endOf(int doing, int t) {
            switch (doing) {
                case IS_EXERCISED:
                    return ENDS_EXERCISED;
                case IS_OUT:
                    return ENDS_OUT;
                case IS_RECALLED:
                    return ENDS_RECALLED;
                default:
                    return t == lattice.market.steps ? ENDS_ELSE : NONE;
            }
        }

        /** Over WIDTH to the power t. */
        long endingAt(Sheet sheet, int t, int end) {
            long sum = 0;
            for (int j = 0; j <= t; j++) {
                int node = nodeAt(t, j);
                if (endOf(sheet.barred.doing[node], t) == end) {
                    sum += outside[node];
                }
                if (endOf(sheet.plain.doing[node], t) == end) {
                    sum += inside[node];
                }
            }
            return sum;
        }

        long lifeOf(Sheet sheet) {
            long sum = 0;
            for (int t = 1; t <= lattice.market.steps; t++) {
                for (int end = 0; end < ENDS; end++) {
                    sum += t * endingAt(sheet, t, end) * lattice.scaleAt(t);
                }
            }
            return sum;
        }
    }

    /** The WRITER; what he has is told over WIDTH to the power of all STEPS. */
    private static final class Hedge {
        // Less than anything an OPTION can cost, which is 0 at least.
        private static final long GOES_ON = -1;

        private final Lattice lattice;
        private final long[][] most = new long[2][MOST_NODES];
        private final int[][] paths = new int[2][MOST_NODES];

        Hedge(Lattice lattice) {
            this.lattice = lattice;
        }

        long leftAlong(Sheet sheet, Contract c, int path, int e) {
            long left = sheet.barred.worth[0];
            boolean inside = false;
            int node = 0;
            for (int t = 0; t <= lattice.market.steps; t++) {
                inside = inside || sheet.barred.doing[node] == IS_IN;
                long given = givenAt(sheet, c, t, node, inside, e);
                if (given != GOES_ON) {
                    return left - given * lattice.powers[t];
                }
                if (t < lattice.market.steps) {
                    int next = (path >> t & 1) == 1 ? lattice.upFrom(t, node) : lattice.downFrom(t, node);
                    left += gainTo(sheet, t, node, next, inside);
                    node = next;
                }
            }
            return left;
        }

        /** What the WRITER gives where the OPTION ENDS, over the NODE's scale. */
        private long givenAt(Sheet sheet, Contract c, int t, int node, boolean inside, int e) {
            long scale = lattice.scaleAt(t);
            if (sheet.barred.doing[node] == IS_OUT) {
                return c.rebate * scale;
            }
            if (c.barrier == IN && !inside) {
                return GOES_ON;
            }
            long pay = sheet.pays[node];
            if (t == e && pay > 0 && lattice.may(t, c.from)) {
                return pay;
            }
            Layer layer = inside ? sheet.plain : sheet.barred;
            return layer.doing[node] == IS_RECALLED ? pay + c.recall * scale : GOES_ON;
        }

        private long gainTo(Sheet sheet, int t, int node, int next, boolean inside) {
            long stock = lattice.standingBy(inside ? sheet.plain : sheet.barred, t, node);
            return stock * lattice.powers[t] * (lattice.stripped[next] - lattice.stripped[node]);
        }

        /** Backward by NODES: the best way on from one does not depend on the way to it. */
        int richestPath(Sheet sheet, Contract c, int e) {
            int states = c.barrier == IN ? 2 : 1;
            for (int t = lattice.market.steps; t >= 0; t--) {
                for (int j = 0; j <= t; j++) {
                    for (int state = 0; state < states; state++) {
                        judge(sheet, c, t, nodeAt(t, j), state, e);
                    }
                }
            }
            return paths[0][0];
        }

        private void judge(Sheet sheet, Contract c, int t, int node, int state, int e) {
            boolean inside = state == 1 || sheet.barred.doing[node] == IS_IN;
            long given = givenAt(sheet, c, t, node, inside, e);
            paths[state][node] = 0;
            if (given != GOES_ON || t >= lattice.market.steps) {
                most[state][node] = given == GOES_ON ? 0 : -given * lattice.powers[t];
                return;
            }
            int next = inside ? 1 : 0;
            int up = lattice.upFrom(t, node);
            int down = lattice.downFrom(t, node);
            long byUp = most[next][up] + gainTo(sheet, t, node, up, inside);
            long byDown = most[next][down] + gainTo(sheet, t, node, down, inside);
            int pathUp = paths[next][up] * 2 + 1;
            int pathDown = paths[next][down] * 2;
            boolean goesUp = byUp > byDown || byUp == byDown && pathUp < pathDown;
            most[state][node] = goesUp ? byUp : byDown;
            paths[state][node] = goesUp ? pathUp : pathDown;
        }
    }

    /** An owner who goes by a mark for PRICE. */
    private static final class Rule {
        private final Lattice lattice;
        private final long[] ruled = new long[MOST_NODES];
        private final long[] barred = new long[MOST_NODES];
        private final int[] marks = new int[MOST_NODES + 1];
        private int marked = 0;

        Rule(Lattice lattice) {
            this.lattice = lattice;
        }

        long worthOf(Sheet sheet, Contract c, int mark, int upper) {
            for (int t = lattice.market.steps; t >= 0; t--) {
                boolean may = lattice.may(t, c.from);
                for (int j = 0; j <= t; j++) {
                    int node = nodeAt(t, j);
                    boolean past = t == lattice.market.steps || isPast(lattice.prices[node], mark, upper);
                    boolean exercised = may && past && sheet.pays[node] > 0;
                    ruled[node] = exercised ? sheet.pays[node] : lattice.heldOf(ruled, t, node);
                    barred[node] = barredWorth(sheet, c, t, node, exercised);
                }
            }
            return barred[0];
        }

        private long barredWorth(Sheet sheet, Contract c, int t, int node, boolean exercised) {
            if (c.barrier == UNBARRED) {
                return ruled[node];
            }
            if (lattice.isTouched(c, node)) {
                return c.barrier == OUT ? c.rebate * lattice.scaleAt(t) : ruled[node];
            }
            if (c.barrier == OUT && exercised) {
                return sheet.pays[node];
            }
            return lattice.heldOf(barred, t, node);
        }

        int bestMark(Sheet sheet, Contract c, int upper) {
            collectMarks(sheet, c, upper);
            int best = 0;
            long most = worthOf(sheet, c, 0, upper);
            for (int i = 0; i < marked; i++) {
                long worth = worthOf(sheet, c, marks[i], upper);
                if (worth > most) {
                    most = worth;
                    best = marks[i];
                }
            }
            return best;
        }

        /** Beside 0 these are the least marks at which the owner does something else than at the mark before. */
        private void collectMarks(Sheet sheet, Contract c, int upper) {
            marked = 0;
            for (int t = 0; t < lattice.market.steps; t++) {
                for (int j = 0; j <= t && lattice.may(t, c.from); j++) {
                    int node = nodeAt(t, j);
                    if (sheet.pays[node] > 0) {
                        insertMark(lattice.prices[node] + upper);
                    }
                }
            }
        }

        private void insertMark(int mark) {
            int place = marked;
            while (place > 0 && marks[place - 1] > mark) {
                place--;
            }
            if (place > 0 && marks[place - 1] == mark || marked >= marks.length) {
                return;
            }
            for (int i = marked; i > place; i--) {
                marks[i] = marks[i - 1];
            }
            marks[place] = mark;
            marked++;
        }

        long oddsOf(int mark, int upper) {
            for (int t = lattice.market.steps; t >= 0; t--) {
                for (int j = 0; j <= t; j++) {
                    int node = nodeAt(t, j);
                    boolean past = isPast(lattice.prices[node], mark, upper);
                    ruled[node] = past ? lattice.scaleAt(t) : lattice.heldOf(ruled, t, node);
                }
            }
            return ruled[0];
        }
    }
}
