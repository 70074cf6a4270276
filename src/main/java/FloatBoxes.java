/**
 * Unknown floats within ranges, rules between them, and the search for a point that keeps all rules.
 *
 * Floats are handled by their PLACES alone and reckoned on with whole numbers, since the part of
 * Java that this class keeps to has no way from the bits of a float to the float and back.
 */
public final class FloatBoxes {
    public static final int NONE = -2139095049, BAD = -2139095050, NO = -2139095051, FULL = -2139095052;

    private static final int FINE = 0;
    private static final int LEAST_PLACE = -2139095040;
    private static final int GREATEST_PLACE = 2139095039;
    private static final int MOST_UNKNOWNS = 6;
    private static final int MOST_RULES = 6;
    private static final int MOST_STATES = 5;
    private static final int MOST_ROUNDS = 12;
    private static final int MOST_BOXES = 60;
    private static final int MOST_BYTES = 120;

    private static final int SUM = 0;
    private static final int PRODUCT = 1;
    private static final int MOST = 2;
    private static final int LESS = 3;
    private static final int SAME = 4;
    private static final int TURNED = 5;

    private static final int POINT_FOUND = 0;
    private static final int NO_POINT = 1;
    private static final int LEFT_OPEN = 2;

    private final Model now;
    private final Model trial;
    private final History history;
    private final Cutter cutter;
    private final Solver solver;
    private final Text text;
    private final int[] refusals;

    public FloatBoxes() {
        now = new Model();
        trial = new Model();
        history = new History();
        cutter = new Cutter();
        solver = new Solver();
        text = new Text();
        refusals = new int[3];
    }

    // ---- unknowns and rules

    public int unknown(int low, int high) {
        int refusal = now.refusalOfUnknown(low, high);
        if (refusal != FINE) {
            return refused(refusal);
        }
        keepState();
        return now.addUnknown(low, high);
    }

    public int range(int u, int low, int high) {
        if (!now.hasUnknown(u) || !Places.isRange(low, high)) {
            return refused(BAD);
        }
        keepState();
        now.low[u] = low;
        now.high[u] = high;
        return now.rulesOf(u);
    }

    public int rule(int kind, int x, int y, int z) {
        int refusal = now.refusalOfRule(kind, x, y, z);
        if (refusal != FINE) {
            return refused(refusal);
        }
        keepState();
        return now.addRule(kind, x, y, z);
    }

    public int drops(int k) {
        if (!now.hasRule(k)) {
            return refused(BAD);
        }
        keepState();
        return now.dropRule(k);
    }

    public int cuts() {
        keepState();
        return cutRanges(now);
    }

    public int of(int u, int what) {
        if (!now.hasUnknown(u) || what < 0 || what > 1) {
            return refused(BAD);
        }
        return what == 0 ? now.low[u] : now.high[u];
    }

    public long holding(int u) {
        if (!now.hasUnknown(u)) {
            return refused(BAD);
        }
        return Places.held(now.low[u], now.high[u]);
    }

    public int about(int k, int what) {
        if (!now.hasRule(k) || what < 0 || what > 3) {
            return refused(BAD);
        }
        switch (what) {
            case 0: return now.kind[k];
            case 1: return now.x[k];
            case 2: return now.y[k];
            default: return now.z[k];
        }
    }

    // ---- one rule

    public int would(int k, int u, int what) {
        if (!now.hasRule(k) || !now.hasUnknown(u) || what < 0 || what > 1) {
            return refused(BAD);
        }
        cutter.load(now.low, now.high, 0);
        if (cutter.cutByRules(now, k, k + 1, 1) == NONE) {
            return NONE;
        }
        return what == 0 ? cutter.low[u] : cutter.high[u];
    }

    public int does(int kind, int x, int y, int z) {
        boolean bad = kind < SUM || kind > TURNED || !Places.isPlace(x) || !Places.isPlace(y);
        if (bad || (kind < LESS && !Places.isPlace(z))) {
            return refused(BAD);
        }
        return Places.ruleHolds(kind, x, y, z) ? 1 : 0;
    }

    // ---- solving

    public int solves(int n, int what) {
        if (n < 1 || n > MOST_BOXES || what < 0 || what > 2) {
            return refused(BAD);
        }
        solver.solve(now, n);
        if (what == 0) {
            return solver.verdict;
        }
        return what == 1 ? solver.taken : solver.left;
    }

    public int point(int n, int u) {
        if (n < 1 || n > MOST_BOXES || !now.hasUnknown(u)) {
            return refused(BAD);
        }
        solver.solve(now, n);
        return solver.verdict == POINT_FOUND ? solver.point[u] : refused(NO);
    }

    // ---- numbers

    public int whole(int v) {
        return Floats.ofWhole(v);
    }

    public int narrow(long bits) {
        if (Floats.isNotANumber(bits)) {
            return refused(BAD);
        }
        int place = Floats.ofDouble(bits);
        return Places.isPlace(place) ? place : refused(NO);
    }

    public long wide(int place) {
        if (!Places.isPlace(place)) {
            refused(BAD);
            return -1;
        }
        return Floats.toDouble(place);
    }

    public int reckons(int which, int p, int q) {
        if (which < 0 || which > 1 || !Places.isPlace(p) || !Places.isPlace(q)) {
            return refused(BAD);
        }
        return which == 0 ? Floats.sum(p, q) : Floats.product(p, q);
    }

    public int rest(int p, int q) {
        if (!Places.isPlace(p) || !Places.isPlace(q)) {
            return refused(BAD);
        }
        if (Places.magnitude(q) == 0) {
            return refused(NO);
        }
        return Floats.remainder(p, q);
    }

    // ---- texts

    public int type(int c) {
        if (c < 0 || c > 127) {
            return refused(BAD);
        }
        if (text.length >= MOST_BYTES) {
            return refused(FULL);
        }
        text.bytes[text.length] = c;
        text.length++;
        return text.length;
    }

    public int clear() {
        int had = text.length;
        text.length = 0;
        return had;
    }

    public int reads() {
        if (!text.parse()) {
            return -10 - text.at;
        }
        trial.copy(now);
        for (int i = 0; i < text.orders; i++) {
            if (text.letter[i] == 'c') {
                cutRanges(trial);
            } else if (!obeys(trial, text.letter[i], i * Text.NUMBERS)) {
                return -1000 - i;
            }
        }
        keepState();
        now.copy(trial);
        return text.orders;
    }

    public int back() {
        if (history.count == 0) {
            return refused(NO);
        }
        history.giveBack(now);
        solver.forget();
        return history.count;
    }

    public int told(int what) {
        if (what < 0 || what > 6) {
            return refused(BAD);
        }
        return tally(what);
    }

    public long digest() {
        long h = 2377;
        for (int what = 0; what <= 6; what++) {
            h = 31 * h + tally(what);
        }
        for (int u = 0; u < now.unknowns; u++) {
            h = 31 * h + now.low[u];
            h = 31 * h + now.high[u];
        }
        for (int k = 0; k < now.rules; k++) {
            h = 31 * h + now.kind[k];
            h = 31 * h + now.x[k];
            h = 31 * h + now.y[k];
            h = 31 * h + now.z[k];
        }
        return 31 * h + (now.allRulesHold(now.low) ? 1 : 0);
    }

    /** Stands ahead of each change of ranges and rules but the way back. */
    private void keepState() {
        history.keep(now);
        solver.forget();
    }

    /** Counts a refusal by BAD, NO or FULL, which stand next to one another. */
    private int refused(int refusal) {
        refusals[BAD - refusal]++;
        return refusal;
    }

    private int tally(int what) {
        switch (what) {
            case 3: return text.length;
            case 4: return now.unknowns;
            case 5: return now.rules;
            case 6: return history.count;
            default: return refusals[what];
        }
    }

    /** How many rounds it took; NONE, if all is empty: then the ranges stay. */
    private int cutRanges(Model model) {
        cutter.load(model.low, model.high, 0);
        int rounds = cutter.cutByRules(model, 0, model.rules, MOST_ROUNDS);
        if (rounds != NONE) {
            cutter.store(model.low, model.high, 0);
        }
        return rounds;
    }

    /** Does the order whose numbers begin at 'first', unless its call would refuse it. */
    private boolean obeys(Model model, int letter, int first) {
        int a = text.number[first], b = text.number[first + 1];
        int c = text.number[first + 2], d = text.number[first + 3];
        switch (letter) {
            case 'u':
                int low = Floats.ofWhole(a), high = Floats.ofWhole(b);
                return model.refusalOfUnknown(low, high) == FINE && model.addUnknown(low, high) >= 0;
            case 'k':
                return model.refusalOfRule(a, b, c, d) == FINE && model.addRule(a, b, c, d) >= 0;
            default:
                return model.hasRule(a) && model.dropRule(a) >= 0;
        }
    }

    /** The unknowns with their ranges, and the rules. */
    private static final class Model {
        int unknowns;
        int rules;
        final int[] low = new int[MOST_UNKNOWNS];
        final int[] high = new int[MOST_UNKNOWNS];
        final int[] kind = new int[MOST_RULES];
        final int[] x = new int[MOST_RULES];
        final int[] y = new int[MOST_RULES];
        final int[] z = new int[MOST_RULES];

        void copy(Model other) {
            unknowns = other.unknowns;
            rules = other.rules;
            System.arraycopy(other.low, 0, low, 0, MOST_UNKNOWNS);
            System.arraycopy(other.high, 0, high, 0, MOST_UNKNOWNS);
            System.arraycopy(other.kind, 0, kind, 0, MOST_RULES);
            System.arraycopy(other.x, 0, x, 0, MOST_RULES);
            System.arraycopy(other.y, 0, y, 0, MOST_RULES);
            System.arraycopy(other.z, 0, z, 0, MOST_RULES);
        }

        boolean hasUnknown(int u) {
            return u >= 0 && u < unknowns;
        }

        boolean hasRule(int k) {
            return k >= 0 && k < rules;
        }

        int refusalOfUnknown(int from, int to) {
            if (!Places.isRange(from, to)) {
                return BAD;
            }
            return unknowns >= MOST_UNKNOWNS ? FULL : FINE;
        }

        int addUnknown(int from, int to) {
            low[unknowns] = from;
            high[unknowns] = to;
            unknowns++;
            return unknowns - 1;
        }

        int refusalOfRule(int ofKind, int ofX, int ofY, int ofZ) {
            if (ofKind < SUM || ofKind > TURNED || !hasUnknown(ofX) || !hasUnknown(ofY)) {
                return BAD;
            }
            if (ofKind < LESS ? !hasUnknown(ofZ) : ofZ != 0) {
                return BAD;
            }
            return rules >= MOST_RULES ? FULL : FINE;
        }

        int addRule(int ofKind, int ofX, int ofY, int ofZ) {
            kind[rules] = ofKind;
            x[rules] = ofX;
            y[rules] = ofY;
            z[rules] = ofZ;
            rules++;
            return rules - 1;
        }

        int dropRule(int k) {
            rules--;
            for (int i = k; i < rules; i++) {
                kind[i] = kind[i + 1];
                x[i] = x[i + 1];
                y[i] = y[i + 1];
                z[i] = z[i + 1];
            }
            return rules;
        }

        int rulesOf(int u) {
            int count = 0;
            for (int k = 0; k < rules; k++) {
                if (x[k] == u || y[k] == u || (kind[k] < LESS && z[k] == u)) {
                    count++;
                }
            }
            return count;
        }

        boolean allRulesHold(int[] places) {
            for (int k = 0; k < rules; k++) {
                if (!Places.ruleHolds(kind[k], places[x[k]], places[y[k]], places[z[k]])) {
                    return false;
                }
            }
            return true;
        }
    }

    /** The states to go back to, in a ring, so that a new one takes the room of the oldest. */
    private static final class History {
        int count;
        private int next;
        private final Model[] ring = new Model[MOST_STATES];

        History() {
            for (int i = 0; i < MOST_STATES; i++) {
                ring[i] = new Model();
            }
        }

        void keep(Model model) {
            ring[next].copy(model);
            next = (next + 1) % MOST_STATES;
            count = Math.min(count + 1, MOST_STATES);
        }

        void giveBack(Model model) {
            next = (next + MOST_STATES - 1) % MOST_STATES;
            count--;
            model.copy(ring[next]);
        }
    }

    /** A box at work: ranges of all unknowns, cut by rules. */
    private static final class Cutter {
        /** A search halves fewer than 2^33 places, so that this many steps always do. */
        private static final int MOST_STEPS = 34;

        final int[] low = new int[MOST_UNKNOWNS];
        final int[] high = new int[MOST_UNKNOWNS];
        private boolean cut;
        private boolean empty;

        void load(int[] lows, int[] highs, int at) {
            System.arraycopy(lows, at, low, 0, MOST_UNKNOWNS);
            System.arraycopy(highs, at, high, 0, MOST_UNKNOWNS);
        }

        void store(int[] lows, int[] highs, int at) {
            System.arraycopy(low, 0, lows, at, MOST_UNKNOWNS);
            System.arraycopy(high, 0, highs, at, MOST_UNKNOWNS);
        }

        /** Cuts by the rules from 'first' to ahead of 'end': how many rounds; NONE: all is empty. */
        int cutByRules(Model model, int first, int end, int rounds) {
            empty = false;
            for (int round = 1; round <= rounds; round++) {
                cut = false;
                for (int k = first; k < end && !empty; k++) {
                    int x = model.x[k], y = model.y[k], z = model.z[k];
                    switch (model.kind[k]) {
                        case SUM:
                            cutSum(x, y, z);
                            break;
                        case PRODUCT:
                            cutProduct(x, y, z);
                            cutFactor(x, y, z);
                            cutFactor(y, x, z);
                            break;
                        case MOST:
                            cutMost(x, y, z);
                            break;
                        case LESS:
                            cutLess(x, y);
                            break;
                        case SAME:
                            cutSame(x, y);
                            break;
                        default:
                            cutTurned(x, y);
                    }
                }
                if (empty) {
                    return NONE;
                }
                if (!cut) {
                    return round;
                }
            }
            return rounds;
        }

        /** What is left of a range is its part from 'from' to 'to'; once all is empty, no more is cut. */
        private void leave(int u, int from, int to) {
            int newLow = Math.max(low[u], from), newHigh = Math.min(high[u], to);
            if (empty || newLow > newHigh) {
                empty = true;
            } else if (newLow != low[u] || newHigh != high[u]) {
                low[u] = newLow;
                high[u] = newHigh;
                cut = true;
            }
        }

        private void cutSum(int x, int y, int z) {
            leave(z, Floats.sum(low[x], low[y]), Floats.sum(high[x], high[y]));
            if (!empty) {
                leave(x, firstSum(x, high[y], low[z]), firstSum(x, low[y], high[z] + 1) - 1);
            }
            if (!empty) {
                leave(y, firstSum(y, high[x], low[z]), firstSum(y, low[x], high[z] + 1) - 1);
            }
        }

        /**
         * The least place of the range of u whose sum with 'other' is 'goal' or more, or the place
         * behind the range. Sums rise with places, so it is found by halving.
         */
        private int firstSum(int u, int other, int goal) {
            int from = low[u], to = high[u];
            if (Floats.sum(from, other) >= goal) {
                return from;
            }
            if (Floats.sum(to, other) < goal) {
                return to + 1;
            }
            for (int step = 0; step < MOST_STEPS && to - (long) from > 1; step++) {
                int middle = Places.middle(from, to);
                if (Floats.sum(middle, other) >= goal) {
                    to = middle;
                } else {
                    from = middle;
                }
            }
            return to;
        }

        private void cutProduct(int x, int y, int z) {
            int a = Floats.product(low[x], low[y]), b = Floats.product(low[x], high[y]);
            int c = Floats.product(high[x], low[y]), d = Floats.product(high[x], high[y]);
            leave(z, Math.min(Math.min(a, b), Math.min(c, d)), Math.max(Math.max(a, b), Math.max(c, d)));
        }

        /**
         * Leaves of x all from the least to the greatest place that fits by y. The part of y with
         * sign bit 1 is turned, and z with it, so that by each part products rise with places of x.
         */
        private void cutFactor(int x, int y, int z) {
            if (empty) {
                return;
            }
            int least = high[x] + 1, greatest = low[x] - 1;
            for (int sign = 0; sign <= 1; sign++) {
                boolean turned = sign == 1;
                int q = Math.max(turned ? -1 - high[y] : low[y], 0);
                int r = turned ? -1 - low[y] : high[y];
                if (q <= r) {
                    int atLeast = turned ? -1 - high[z] : low[z];
                    int atMost = turned ? -1 - low[z] : high[z];
                    int from = firstProduct(x, q, r, atLeast);
                    int to = firstProduct(x, r, q, atMost + 1) - 1;
                    if (from <= to) {
                        least = Math.min(least, from);
                        greatest = Math.max(greatest, to);
                    }
                }
            }
            leave(x, least, greatest);
        }

        /**
         * The least place of the range of u whose product by 'minus' (of places with sign bit 1) or
         * by 'plus' (of others) is 'goal' or more, or the place behind the range. Both factors have
         * sign bit 0, so that products rise with places.
         */
        private int firstProduct(int u, int minus, int plus, int goal) {
            int from = low[u], to = high[u];
            if (Floats.product(from, from < 0 ? minus : plus) >= goal) {
                return from;
            }
            if (Floats.product(to, to < 0 ? minus : plus) < goal) {
                return to + 1;
            }
            for (int step = 0; step < MOST_STEPS && to - (long) from > 1; step++) {
                int middle = Places.middle(from, to);
                if (Floats.product(middle, middle < 0 ? minus : plus) >= goal) {
                    to = middle;
                } else {
                    from = middle;
                }
            }
            return to;
        }

        private void cutMost(int x, int y, int z) {
            leave(z, Math.max(low[x], low[y]), Math.max(high[x], high[y]));
            leave(x, high[y] < low[z] ? low[z] : low[x], high[z]);
            leave(y, high[x] < low[z] ? low[z] : low[y], high[z]);
        }

        private void cutLess(int x, int y) {
            leave(x, low[x], Places.lastOfRank(Places.rank(high[y]) - 1));
            leave(y, Places.firstOfRank(Places.rank(low[x]) + 1), high[y]);
        }

        private void cutSame(int x, int y) {
            leave(x, Places.firstOfRank(Places.rank(low[y])), Places.lastOfRank(Places.rank(high[y])));
            leave(y, Places.firstOfRank(Places.rank(low[x])), Places.lastOfRank(Places.rank(high[x])));
        }

        private void cutTurned(int x, int y) {
            leave(y, -1 - high[x], -1 - low[x]);
            leave(x, -1 - high[y], -1 - low[y]);
        }
    }

    /** The search for a point, box by box. */
    private static final class Solver {
        /** Each box taken leaves two at most, so that the row never holds more than this. */
        private static final int ROW = MOST_BOXES + 1;

        int verdict;
        int taken;
        int left;
        final int[] point = new int[MOST_UNKNOWNS];
        private int solvedBy;
        private final Cutter box = new Cutter();
        private final int[] lows = new int[ROW * MOST_UNKNOWNS];
        private final int[] highs = new int[ROW * MOST_UNKNOWNS];

        /** The ranges or the rules are other ones now. */
        void forget() {
            solvedBy = 0;
        }

        /** Solves by n boxes, unless that was done last: one solving is mostly asked about several times. */
        void solve(Model model, int n) {
            if (solvedBy == n) {
                return;
            }
            solvedBy = n;
            taken = 0;
            left = 0;
            box.load(model.low, model.high, 0);
            put();
            boolean found = false;
            while (left > 0 && taken < n && !found) {
                taken++;
                left--;
                box.load(lows, highs, left * MOST_UNKNOWNS);
                if (box.cutByRules(model, 0, model.rules, MOST_ROUNDS) != NONE) {
                    int widest = widestOf(model.unknowns);
                    if (widest >= 0) {
                        halve(widest);
                    } else {
                        found = model.allRulesHold(box.low);
                    }
                }
            }
            verdict = found ? POINT_FOUND : left == 0 ? NO_POINT : LEFT_OPEN;
            System.arraycopy(box.low, 0, point, 0, MOST_UNKNOWNS);
        }

        private void put() {
            if (left < ROW) {
                box.store(lows, highs, left * MOST_UNKNOWNS);
                left++;
            }
        }

        /** The first of the unknowns that hold most; -1, if each holds one. */
        private int widestOf(int unknowns) {
            int widest = -1;
            long most = 1;
            for (int u = 0; u < unknowns; u++) {
                long held = Places.held(box.low[u], box.high[u]);
                if (held > most) {
                    most = held;
                    widest = u;
                }
            }
            return widest;
        }

        private void halve(int u) {
            int low = box.low[u], middle = Places.middle(low, box.high[u]);
            box.low[u] = middle + 1;
            put();
            box.low[u] = low;
            box.high[u] = middle;
            put();
        }
    }

    /** The text, and the orders that it tells. */
    private static final class Text {
        /** The room for the numbers of one order. */
        static final int NUMBERS = 4;
        /** The shortest order has two bytes. */
        private static final int MOST_ORDERS = MOST_BYTES / 2;
        private static final int MOST_FIGURES = 9;
        private static final int END = -1;

        int length;
        int at;
        int orders;
        final int[] bytes = new int[MOST_BYTES];
        final int[] letter = new int[MOST_ORDERS];
        final int[] number = new int[MOST_ORDERS * NUMBERS];

        /** Takes the orders from the text: whether it has no fault; if it has one, 'at' is its place. */
        boolean parse() {
            at = 0;
            orders = 0;
            skipBlanks();
            while (orders < MOST_ORDERS && readOrder()) {
                orders++;
                skipBlanks();
                if (at >= length) {
                    return true;
                }
            }
            return false;
        }

        /** Whether an order stands at 'at'; if not, 'at' comes to the byte that can not stand there. */
        private boolean readOrder() {
            int sign = peek();
            int numbers = numbersOf(sign);
            if (numbers < 0) {
                return false;
            }
            at++;
            letter[orders] = sign;
            for (int i = 0; i < numbers; i++) {
                skipBlanks();
                if (!readNumber(orders * NUMBERS + i, sign == 'u')) {
                    return false;
                }
            }
            skipBlanks();
            if (peek() != ';') {
                return false;
            }
            at++;
            return true;
        }

        /** How many numbers stand behind a letter; -1, if no order begins with it. */
        private static int numbersOf(int sign) {
            switch (sign) {
                case 'u': return 2;
                case 'k': return 4;
                case 'c': return 0;
                case 'x': return 1;
                default: return -1;
            }
        }

        /** Likewise of a number; a tenth figure can not stand there. */
        private boolean readNumber(int slot, boolean signed) {
            boolean minus = signed && peek() == '-';
            if (minus) {
                at++;
            }
            int value = 0, figures = 0;
            while (figures < MOST_FIGURES && isFigure(peek())) {
                value = value * 10 + peek() - '0';
                figures++;
                at++;
            }
            number[slot] = minus ? -value : value;
            return figures > 0 && !isFigure(peek());
        }

        private void skipBlanks() {
            while (at < length && bytes[at] == ' ') {
                at++;
            }
        }

        private int peek() {
            return at < length ? bytes[at] : END;
        }

        private static boolean isFigure(int sign) {
            return sign >= '0' && sign <= '9';
        }
    }

    /** What places tell of numbers without reckoning. */
    private static final class Places {
        static boolean isPlace(int p) {
            return p >= LEAST_PLACE && p <= GREATEST_PLACE;
        }

        static boolean isRange(int from, int to) {
            return isPlace(from) && isPlace(to) && from <= to;
        }

        static long held(int from, int to) {
            return (long) to - from + 1;
        }

        static int middle(int from, int to) {
            return (int) (((long) from + to) >> 1);
        }

        /** The bits without the sign bit. */
        static int magnitude(int p) {
            return p < 0 ? -1 - p : p;
        }

        /** Rises with numbers as places do, but is the same for -0.0 and 0.0. */
        static int rank(int p) {
            return p < 0 ? p + 1 : p;
        }

        static int firstOfRank(int rank) {
            return rank <= 0 ? rank - 1 : rank;
        }

        static int lastOfRank(int rank) {
            return rank < 0 ? rank - 1 : rank;
        }

        static boolean ruleHolds(int kind, int x, int y, int z) {
            switch (kind) {
                case SUM: return Floats.sum(x, y) == z;
                case PRODUCT: return Floats.product(x, y) == z;
                case MOST: return Math.max(x, y) == z;
                case LESS: return rank(x) < rank(y);
                case SAME: return rank(x) == rank(y);
                default: return y == -1 - x;
            }
        }
    }

    /** Numbers reckoned on as float does, by whole numbers alone. */
    private static final class Floats {
        private static final int INFINITY = 0x7f800000;
        private static final int FRACTION_BITS = 23;
        private static final int SIGNIFICAND_BITS = 24;
        private static final int GREATEST_EXPONENT = 254;
        /** A number is its significand times 2 to the power of (its exponent less this). */
        private static final int BIAS = 150;

        private static final int DOUBLE_FRACTION_BITS = 52;
        private static final int DOUBLE_INFINITE_EXPONENT = 2047;
        private static final int DOUBLE_BIAS = 1075;

        static int ofWhole(int v) {
            return rounded(v < 0, Math.abs((long) v), BIAS);
        }

        static boolean isNotANumber(long bits) {
            return doubleExponent(bits) == DOUBLE_INFINITE_EXPONENT && doubleFraction(bits) != 0;
        }

        static int ofDouble(long bits) {
            int exponent = doubleExponent(bits);
            long amount = doubleFraction(bits);
            if (exponent > 0) {
                amount += 1L << DOUBLE_FRACTION_BITS;
            }
            return rounded(bits < 0, amount, Math.max(exponent, 1) - DOUBLE_BIAS + BIAS);
        }

        static long toDouble(int p) {
            int m = Places.magnitude(p);
            long sign = p < 0 ? 1L << 63 : 0;
            if (m == 0) {
                return sign;
            }
            long amount = significand(m);
            // the foremost bit comes to where a double hides it, so that adding it adds one to the exponent
            int shift = Long.numberOfLeadingZeros(amount) - (63 - DOUBLE_FRACTION_BITS);
            long exponent = exponent(m) - BIAS + DOUBLE_BIAS - shift;
            return sign + ((exponent - 1) << DOUBLE_FRACTION_BITS) + (amount << shift);
        }

        static int sum(int p, int q) {
            boolean inOrder = Places.magnitude(p) >= Places.magnitude(q);
            int major = inOrder ? p : q, minor = inOrder ? q : p;
            int a = Places.magnitude(major), b = Places.magnitude(minor);
            int shift = exponent(a) - exponent(b);
            if (shift > SIGNIFICAND_BITS + 2) {
                return major; // the minor one is less than a quarter of the step to a neighbour
            }
            boolean alike = (p < 0) == (q < 0);
            if (a == b && !alike) {
                return 0;
            }
            long more = (long) significand(a) << shift, less = significand(b);
            return rounded(major < 0, alike ? more + less : more - less, exponent(b));
        }

        static int product(int p, int q) {
            int a = Places.magnitude(p), b = Places.magnitude(q);
            long amount = (long) significand(a) * significand(b);
            return rounded((p < 0) != (q < 0), amount, exponent(a) + exponent(b) - BIAS);
        }

        /** What is left over of p by q, q not being zero. */
        static int remainder(int p, int q) {
            int a = Places.magnitude(p), b = Places.magnitude(q);
            long divisor = significand(b);
            if (a < b || divisor == 0) {
                return p;
            }
            long over = significand(a) % divisor;
            for (int doublings = exponent(a) - exponent(b); doublings > 0; doublings -= 32) {
                over = (over << Math.min(doublings, 32)) % divisor;
            }
            return rounded(p < 0, over, exponent(b));
        }

        /**
         * The place nearest to amount times 2 to the power of (exponent less BIAS), halves to the
         * even one; amount is 0 or more and below 2 to the power of 62.
         */
        private static int rounded(boolean minus, long amount, int exponent) {
            int bits = 0;
            if (amount != 0) {
                int length = 64 - Long.numberOfLeadingZeros(amount);
                int fitting = Math.max(exponent + length - SIGNIFICAND_BITS, 1);
                int shift = fitting - exponent;
                if (fitting > GREATEST_EXPONENT) {
                    bits = INFINITY;
                } else if (shift <= 0) {
                    bits = ((fitting - 1) << FRACTION_BITS) + (int) (amount << -shift);
                } else if (shift < 63) {
                    long odd = (amount >> shift) & 1;
                    long nearest = (amount + (1L << (shift - 1)) - 1 + odd) >> shift;
                    // a nearest of 2^24 rightly carries into the exponent
                    bits = ((fitting - 1) << FRACTION_BITS) + (int) nearest;
                }
            }
            return minus ? -1 - bits : bits;
        }

        private static int exponent(int m) {
            return Math.max(m >> FRACTION_BITS, 1);
        }

        private static int significand(int m) {
            int hidden = 1 << FRACTION_BITS;
            return m < hidden ? m : hidden + (m & (hidden - 1));
        }

        private static int doubleExponent(long bits) {
            return (int) (bits >>> DOUBLE_FRACTION_BITS) & DOUBLE_INFINITE_EXPONENT;
        }

        private static long doubleFraction(long bits) {
            return bits & ((1L << DOUBLE_FRACTION_BITS) - 1);
        }
    }
}
