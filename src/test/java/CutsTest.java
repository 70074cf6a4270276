import java.util.Random;

/** Promises 6 and 10: one rule of wide ranges, against the reference and against what the document says of each place. */
public final class CutsTest {
    private static final int TURNS = 60000;
    private static final int SAMPLES = 12;

    private final Random random;
    private final FloatBoxes boxes = new FloatBoxes();
    private final Reference reference = new Reference();
    private final int[] low = new int[3];
    private final int[] high = new int[3];
    private String name = "";

    private CutsTest(int turn) {
        random = new Random(turn);
    }

    public static void main(String[] args) {
        for (int turn = 0; turn < TURNS; turn++) {
            new CutsTest(turn).turn();
        }
        Check.finish();
    }

    private void turn() {
        int kind = random.nextInt(3) == 0 ? random.nextInt(6) : random.nextInt(2);
        int p = place(), q = place();
        around(0, p);
        around(1, q);
        around(2, Numbers.clamp(kind == 0 ? Numbers.sum(p, q) : kind == 1 ? Numbers.product(p, q) : Math.max(p, q)));
        for (int u = 0; u < 3; u++) {
            boxes.unknown(low[u], high[u]);
            reference.unknown(low[u], high[u]);
            name += low[u] + ".." + high[u] + " ";
        }
        boolean alike = random.nextInt(6) == 0;
        int x = alike ? random.nextInt(3) : 0, y = alike ? random.nextInt(3) : 1;
        int z = kind > 2 ? 0 : alike ? random.nextInt(3) : 2;
        name += "rule(" + kind + ", " + x + ", " + y + ", " + z + "): ";
        boxes.rule(kind, x, y, z);
        reference.rule(kind, x, y, z);
        for (int u = 0; u < 3; u++) {
            for (int what = 0; what < 2; what++) {
                Check.due(name + "would(0, " + u + ", " + what + ")", boxes.would(0, u, what),
                        reference.would(0, u, what));
            }
        }
        if (!alike && kind <= 1) {
            sample(kind);
        }
        Check.due(name + "cuts()", boxes.cuts(), reference.cuts());
        Check.due(name + "digest()", boxes.digest(), reference.digest());
        for (int what = 0; what < 3; what++) {
            Check.due(name + "solves(60, " + what + ")", boxes.solves(60, what), reference.solves(60, what));
        }
    }

    private int place() {
        return random.nextBoolean() ? Numbers.anyPlace(random) : Numbers.middlePlace(random);
    }

    /** A range that mostly has the place. */
    private void around(int u, int p) {
        long down = (random.nextInt() & 0xffffffffL) >>> random.nextInt(33);
        long up = (random.nextInt() & 0xffffffffL) >>> random.nextInt(33);
        if (random.nextInt(8) == 0) {
            down = -Math.min(down, up);
        }
        low[u] = Numbers.clamp(p - down);
        high[u] = Numbers.clamp(Math.max(low[u], p + up));
    }

    /** x is cut by y as it was and z as it is then: what is left begins and ends with what fits, nothing else does. */
    private void sample(int kind) {
        int from = boxes.would(0, 0, 0), to = boxes.would(0, 0, 1);
        if (from == Numbers.NONE) {
            return;
        }
        int zLow = boxes.would(0, 2, 0), zHigh = boxes.would(0, 2, 1);
        Check.isTrue(name + "the least left fits", fits(kind, from, zLow, zHigh));
        Check.isTrue(name + "the greatest left fits", fits(kind, to, zLow, zHigh));
        for (int i = 0; i < SAMPLES; i++) {
            if (from > low[0]) {
                int below = (int) (from - 1 - step(i) % ((long) from - low[0]));
                Check.isTrue(name + below + " below does not fit", !fits(kind, below, zLow, zHigh));
            }
            if (to < high[0]) {
                int above = (int) (to + 1 + step(i) % ((long) high[0] - to));
                Check.isTrue(name + above + " above does not fit", !fits(kind, above, zLow, zHigh));
            }
        }
    }

    /** How far away to look: the later, the nearer. */
    private long step(int i) {
        return (random.nextInt() & 0xffffffffL) >>> (i * 3);
    }

    private boolean fits(int kind, int p, int zLow, int zHigh) {
        if (kind == 0) {
            return Numbers.sum(p, high[1]) >= zLow && Numbers.sum(p, low[1]) <= zHigh;
        }
        boolean minus = low[1] <= -1 && fitsPart(p, low[1], Math.min(high[1], -1), zLow, zHigh);
        return minus || high[1] >= 0 && fitsPart(p, Math.max(low[1], 0), high[1], zLow, zHigh);
    }

    private static boolean fitsPart(int p, int q, int r, int zLow, int zHigh) {
        int a = Numbers.product(p, q), b = Numbers.product(p, r);
        return Math.min(a, b) <= zHigh && Math.max(a, b) >= zLow;
    }
}
