import java.util.ArrayDeque;
import java.util.ArrayList;
import java.util.Deque;
import java.util.List;
import java.util.function.IntPredicate;

/**
 * The document again, as plainly as can be, with the machine's own floats. Cuts of narrow ranges
 * look at each place of the range; those of wide ranges halve it.
 */
final class Reference {
    record Range(int low, int high) {
        long holding() {
            return (long) high - low + 1;
        }
    }

    record Rule(int kind, int x, int y, int z) {
        boolean isOf(int u) {
            return x == u || y == u || (kind <= 2 && z == u);
        }
    }

    private record State(List<Range> ranges, List<Rule> rules) {
    }

    private record Solution(int verdict, int taken, int left, List<Range> point) {
    }

    /** Thrown when all is empty. */
    private static final class Empty extends Exception {
        private static final long serialVersionUID = 1L;
    }

    private List<Range> ranges = new ArrayList<>();
    private List<Rule> rules = new ArrayList<>();
    private final Deque<State> states = new ArrayDeque<>();
    private final StringBuilder text = new StringBuilder();
    private final int[] refused = new int[3];
    private boolean byText = false;

    private int refuse(int why) {
        if (!byText) {
            refused[Numbers.BAD - why]++;
        }
        return why;
    }

    private void keepState() {
        if (byText) {
            return;
        }
        states.addLast(new State(new ArrayList<>(ranges), new ArrayList<>(rules)));
        if (states.size() > 5) {
            states.removeFirst();
        }
    }

    private static boolean isPlace(int p) {
        return p >= Numbers.LEAST && p <= Numbers.GREATEST;
    }

    private boolean isUnknown(int u) {
        return u >= 0 && u < ranges.size();
    }

    private boolean isRule(int k) {
        return k >= 0 && k < rules.size();
    }

    int unknown(int low, int high) {
        if (!isPlace(low) || !isPlace(high) || high < low) {
            return refuse(Numbers.BAD);
        }
        if (ranges.size() == 6) {
            return refuse(Numbers.FULL);
        }
        keepState();
        ranges.add(new Range(low, high));
        return ranges.size() - 1;
    }

    int range(int u, int low, int high) {
        if (!isUnknown(u) || !isPlace(low) || !isPlace(high) || high < low) {
            return refuse(Numbers.BAD);
        }
        keepState();
        ranges.set(u, new Range(low, high));
        return (int) rules.stream().filter(r -> r.isOf(u)).count();
    }

    int rule(int kind, int x, int y, int z) {
        if (kind < 0 || kind > 5 || !isUnknown(x) || !isUnknown(y)) {
            return refuse(Numbers.BAD);
        }
        if (kind <= 2 && !isUnknown(z) || kind > 2 && z != 0) {
            return refuse(Numbers.BAD);
        }
        if (rules.size() == 6) {
            return refuse(Numbers.FULL);
        }
        keepState();
        rules.add(new Rule(kind, x, y, z));
        return rules.size() - 1;
    }

    int drops(int k) {
        if (!isRule(k)) {
            return refuse(Numbers.BAD);
        }
        keepState();
        rules.remove(k);
        return rules.size();
    }

    int cuts() {
        keepState();
        List<Range> box = new ArrayList<>(ranges);
        int rounds = cutting(box);
        if (rounds != Numbers.NONE) {
            ranges = box;
        }
        return rounds;
    }

    int of(int u, int what) {
        if (!isUnknown(u) || what != 0 && what != 1) {
            return refuse(Numbers.BAD);
        }
        return what == 0 ? ranges.get(u).low : ranges.get(u).high;
    }

    long holding(int u) {
        return isUnknown(u) ? ranges.get(u).holding() : refuse(Numbers.BAD);
    }

    int about(int k, int what) {
        if (!isRule(k) || what < 0 || what > 3) {
            return refuse(Numbers.BAD);
        }
        Rule r = rules.get(k);
        return new int[] {r.kind, r.x, r.y, r.z}[what];
    }

    int would(int k, int u, int what) {
        if (!isRule(k) || !isUnknown(u) || what != 0 && what != 1) {
            return refuse(Numbers.BAD);
        }
        List<Range> box = new ArrayList<>(ranges);
        try {
            cut(box, rules.get(k));
        } catch (Empty e) {
            return Numbers.NONE;
        }
        return what == 0 ? box.get(u).low : box.get(u).high;
    }

    int does(int kind, int x, int y, int z) {
        if (kind < 0 || kind > 5 || !isPlace(x) || !isPlace(y) || kind <= 2 && !isPlace(z)) {
            return refuse(Numbers.BAD);
        }
        return holds(kind, x, y, z) ? 1 : 0;
    }

    int solves(int n, int what) {
        if (n < 1 || n > 60 || what < 0 || what > 2) {
            return refuse(Numbers.BAD);
        }
        Solution s = solving(n);
        return new int[] {s.verdict, s.taken, s.left}[what];
    }

    int point(int n, int u) {
        if (n < 1 || n > 60 || !isUnknown(u)) {
            return refuse(Numbers.BAD);
        }
        Solution s = solving(n);
        return s.verdict == 0 ? s.point.get(u).low : refuse(Numbers.NO);
    }

    int type(int c) {
        if (c < 0 || c > 127) {
            return refuse(Numbers.BAD);
        }
        if (text.length() == 120) {
            return refuse(Numbers.FULL);
        }
        text.append((char) c);
        return text.length();
    }

    int clear() {
        int had = text.length();
        text.setLength(0);
        return had;
    }

    int reads() {
        int fault = Grammar.fault(text.toString());
        if (fault >= 0) {
            return -10 - fault;
        }
        List<Range> rangesBefore = new ArrayList<>(ranges);
        List<Rule> rulesBefore = new ArrayList<>(rules);
        State before = new State(rangesBefore, rulesBefore);
        List<Grammar.Order> orders = Grammar.orders(text.toString());
        byText = true;
        for (int i = 0; i < orders.size(); i++) {
            int answer = obey(orders.get(i));
            if (answer == Numbers.BAD || answer == Numbers.FULL) {
                ranges = new ArrayList<>(rangesBefore);
                rules = new ArrayList<>(rulesBefore);
                byText = false;
                return -1000 - i;
            }
        }
        byText = false;
        states.addLast(before);
        if (states.size() > 5) {
            states.removeFirst();
        }
        return orders.size();
    }

    private int obey(Grammar.Order order) {
        int[] v = order.numbers();
        switch (order.letter()) {
            case 'u':
                return unknown(Numbers.place((float) v[0]), Numbers.place((float) v[1]));
            case 'k':
                return rule(v[0], v[1], v[2], v[3]);
            case 'x':
                return drops(v[0]);
            default:
                return cuts();
        }
    }

    int back() {
        if (states.isEmpty()) {
            return refuse(Numbers.NO);
        }
        State s = states.removeLast();
        ranges = new ArrayList<>(s.ranges);
        rules = new ArrayList<>(s.rules);
        return states.size();
    }

    int told(int what) {
        if (what < 0 || what > 6) {
            return refuse(Numbers.BAD);
        }
        return new int[] {refused[0], refused[1], refused[2], text.length(), ranges.size(), rules.size(),
            states.size()}[what];
    }

    long digest() {
        List<Long> all = new ArrayList<>();
        for (int what = 0; what < 7; what++) {
            all.add((long) told(what));
        }
        for (Range r : ranges) {
            all.add((long) r.low);
            all.add((long) r.high);
        }
        for (Rule r : rules) {
            for (int v : new int[] {r.kind, r.x, r.y, r.z}) {
                all.add((long) v);
            }
        }
        all.add(allHold(ranges) ? 1L : 0L);
        long h = 2377;
        for (long v : all) {
            h = 31 * h + v;
        }
        return h;
    }

    static boolean holds(int kind, int x, int y, int z) {
        switch (kind) {
            case 0: return Numbers.sum(x, y) == z;
            case 1: return Numbers.product(x, y) == z;
            case 2: return Math.max(x, y) == z;
            case 3: return Numbers.number(x) < Numbers.number(y);
            case 4: return Numbers.number(x) == Numbers.number(y);
            default: return Numbers.place(-Numbers.number(x)) == y;
        }
    }

    private boolean allHold(List<Range> box) {
        return rules.stream().allMatch(r -> holds(r.kind, box.get(r.x).low, box.get(r.y).low, box.get(r.z).low));
    }

    private int cutting(List<Range> box) {
        int rounds = 0;
        try {
            boolean cut = true;
            while (cut && rounds < 12) {
                List<Range> before = new ArrayList<>(box);
                for (Rule r : rules) {
                    cut(box, r);
                }
                cut = !box.equals(before);
                rounds++;
            }
        } catch (Empty e) {
            return Numbers.NONE;
        }
        return rounds;
    }

    /** A stretch of places: those where 'up' has come to be true and 'down' is true yet. */
    private record Stretch(IntPredicate up, IntPredicate down) {
        boolean has(int p) {
            return up.test(p) && down.test(p);
        }
    }

    private static void cut(List<Range> box, Rule r) throws Empty {
        int x = r.x, y = r.y, z = r.z;
        Range a = box.get(x), b = box.get(y);
        switch (r.kind) {
            case 0: {
                int from = Numbers.sum(a.low, b.low), to = Numbers.sum(a.high, b.high);
                keep(box, z, new Stretch(p -> p >= from, p -> p <= to));
                keepTerms(box, x, box.get(y), box.get(z));
                keepTerms(box, y, box.get(x), box.get(z));
                break;
            }
            case 1: {
                int[] m = {Numbers.product(a.low, b.low), Numbers.product(a.low, b.high),
                    Numbers.product(a.high, b.low), Numbers.product(a.high, b.high)};
                java.util.Arrays.sort(m);
                keep(box, z, new Stretch(p -> p >= m[0], p -> p <= m[3]));
                keepFactors(box, x, box.get(y), box.get(z));
                keepFactors(box, y, box.get(x), box.get(z));
                break;
            }
            case 2: {
                keep(box, z, new Stretch(p -> p >= Math.max(a.low, b.low), p -> p <= Math.max(a.high, b.high)));
                keepOfMost(box, x, box.get(y), box.get(z));
                keepOfMost(box, y, box.get(x), box.get(z));
                break;
            }
            case 3: {
                float high = Numbers.number(b.high);
                keep(box, x, new Stretch(p -> true, p -> Numbers.number(p) < high));
                float low = Numbers.number(box.get(x).low);
                keep(box, y, new Stretch(p -> Numbers.number(p) > low, p -> true));
                break;
            }
            case 4:
                keepSame(box, x, box.get(y));
                keepSame(box, y, box.get(x));
                break;
            default:
                keepTurned(box, y, box.get(x));
                keepTurned(box, x, box.get(y));
        }
    }

    private static void keepTerms(List<Range> box, int u, Range y, Range z) throws Empty {
        keep(box, u, new Stretch(p -> Numbers.sum(p, y.high) >= z.low, p -> Numbers.sum(p, y.low) <= z.high));
    }

    private static void keepFactors(List<Range> box, int u, Range y, Range z) throws Empty {
        List<Stretch> parts = new ArrayList<>();
        if (y.low <= -1) {
            // by numbers with sign bit 1 products fall, so the two tests change their roles
            int q = y.low, r = Math.min(y.high, -1);
            parts.add(new Stretch(p -> lesser(p, q, r) <= z.high, p -> greater(p, q, r) >= z.low));
        }
        if (y.high >= 0) {
            int q = Math.max(y.low, 0), r = y.high;
            parts.add(new Stretch(p -> greater(p, q, r) >= z.low, p -> lesser(p, q, r) <= z.high));
        }
        keep(box, u, parts.toArray(new Stretch[0]));
    }

    private static int lesser(int p, int q, int r) {
        return Math.min(Numbers.product(p, q), Numbers.product(p, r));
    }

    private static int greater(int p, int q, int r) {
        return Math.max(Numbers.product(p, q), Numbers.product(p, r));
    }

    private static void keepOfMost(List<Range> box, int u, Range y, Range z) throws Empty {
        keep(box, u, new Stretch(p -> y.high >= z.low || p >= z.low, p -> p <= z.high));
    }

    private static void keepSame(List<Range> box, int u, Range y) throws Empty {
        keep(box, u, new Stretch(p -> !(Numbers.number(p) < Numbers.number(y.low)),
                p -> !(Numbers.number(p) > Numbers.number(y.high))));
    }

    private static void keepTurned(List<Range> box, int u, Range y) throws Empty {
        keep(box, u, new Stretch(p -> -1 - p <= y.high, p -> -1 - p >= y.low));
    }

    /** From the least to the greatest place of the range that is in one of the stretches. */
    private static void keep(List<Range> box, int u, Stretch... told) throws Empty {
        Range range = box.get(u);
        Range left = range.holding() <= 100 ? byLooking(range, told) : byHalving(range, told);
        if (left == null) {
            throw new Empty();
        }
        box.set(u, left);
    }

    private static Range byLooking(Range range, Stretch... told) {
        Range left = null;
        for (int p = range.low; p <= range.high; p++) {
            for (Stretch s : told) {
                if (s.has(p)) {
                    left = new Range(left == null ? p : left.low, p);
                }
            }
        }
        return left;
    }

    private static Range byHalving(Range range, Stretch... told) {
        Range left = null;
        for (Stretch s : told) {
            int from = firstTrue(range, s.up), to = firstTrue(range, p -> !s.down.test(p)) - 1;
            if (from <= to) {
                left = left == null ? new Range(from, to)
                        : new Range(Math.min(left.low, from), Math.max(left.high, to));
            }
        }
        return left;
    }

    /** The first place where what is false, then true, is true; the one behind the range, if none is. */
    private static int firstTrue(Range range, IntPredicate test) {
        long from = range.low, end = range.high + 1L;
        while (from < end) {
            long middle = Math.floorDiv(from + end, 2L);
            if (test.test((int) middle)) {
                end = middle;
            } else {
                from = middle + 1;
            }
        }
        return (int) from;
    }

    private Solution solving(int n) {
        Deque<List<Range>> row = new ArrayDeque<>();
        row.addLast(new ArrayList<>(ranges));
        int taken = 0;
        while (!row.isEmpty() && taken < n) {
            List<Range> box = row.removeLast();
            taken++;
            if (cutting(box) == Numbers.NONE) {
                continue;
            }
            if (box.stream().allMatch(r -> r.holding() == 1)) {
                if (allHold(box)) {
                    return new Solution(0, taken, row.size(), box);
                }
                continue;
            }
            int widest = 0;
            for (int u = 1; u < box.size(); u++) {
                if (box.get(u).holding() > box.get(widest).holding()) {
                    widest = u;
                }
            }
            Range r = box.get(widest);
            int m = (int) Math.floorDiv((long) r.low + r.high, 2L);
            List<Range> upper = new ArrayList<>(box), lower = new ArrayList<>(box);
            upper.set(widest, new Range(m + 1, r.high));
            lower.set(widest, new Range(r.low, m));
            row.addLast(upper);
            row.addLast(lower);
        }
        return new Solution(row.isEmpty() ? 1 : 2, taken, row.size(), null);
    }
}
