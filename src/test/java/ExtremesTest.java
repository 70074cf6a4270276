import java.util.Random;

/** Every call with the least, the greatest and the edge arguments, in states by chance: none throws, all answer as due. */
public final class ExtremesTest {
    private static final int RUNS = 3000;
    private static final int CALLS = 400;
    private static final int[] EDGES = {Integer.MIN_VALUE, Integer.MIN_VALUE + 1, Numbers.FULL, Numbers.NO, Numbers.BAD,
        Numbers.NONE, Numbers.LEAST - 1, Numbers.LEAST, Numbers.LEAST + 1, -8388609, -8388608, -2, -1, 0, 1, 2, 3, 4, 5, 6,
        7, 32, 59, 60, 61, 119, 120, 121, 127, 128, 8388607, 8388608, 1065353216, Numbers.GREATEST - 1, Numbers.GREATEST,
        Numbers.GREATEST + 1, Integer.MAX_VALUE - 1, Integer.MAX_VALUE};

    private final Random random;
    private final FloatBoxes boxes = new FloatBoxes();
    private final Reference reference = new Reference();
    private final String name;

    private ExtremesTest(int run) {
        random = new Random(run);
        name = "run " + run + ": ";
    }

    public static void main(String[] args) {
        for (int run = 0; run < RUNS; run++) {
            ExtremesTest test = new ExtremesTest(run);
            for (int call = 0; call < CALLS; call++) {
                test.anyCall();
            }
        }
        Check.finish();
    }

    private int edge() {
        return EDGES[random.nextInt(EDGES.length)];
    }

    /** Mostly a little number, so that calls are done at times. */
    private int little() {
        return random.nextInt(3) == 0 ? edge() : random.nextInt(7);
    }

    private void same(String call, long got, long want) {
        Check.due(name + call, got, want);
    }

    private void anyCall() {
        int p = edge(), q = edge(), r = edge(), a = little(), c = little(), d = little(), e = little();
        switch (random.nextInt(16)) {
            case 0: same("unknown(" + p + ", " + q + ")", boxes.unknown(p, q), reference.unknown(p, q)); break;
            case 1: same("range(" + a + ", " + p + ", " + q + ")", boxes.range(a, p, q), reference.range(a, p, q)); break;
            case 2: same("rule(" + a + ", " + c + ", " + d + ", " + e + ")", boxes.rule(a, c, d, e),
                    reference.rule(a, c, d, e)); break;
            case 3: same("drops(" + a + ")", boxes.drops(a), reference.drops(a)); break;
            case 4: same("cuts()", boxes.cuts(), reference.cuts()); break;
            case 5: same("of(" + a + ", " + c + ")", boxes.of(a, c), reference.of(a, c)); break;
            case 6: same("holding(" + a + ")", boxes.holding(a), reference.holding(a)); break;
            case 7: same("about(" + a + ", " + c + ")", boxes.about(a, c), reference.about(a, c)); break;
            case 8: same("would(" + a + ", " + c + ", " + d + ")", boxes.would(a, c, d), reference.would(a, c, d)); break;
            case 9: same("does(" + a + ", " + p + ", " + q + ", " + r + ")", boxes.does(a, p, q, r),
                    reference.does(a, p, q, r)); break;
            case 10: same("solves(" + q + ", " + a + ")", boxes.solves(q, a), reference.solves(q, a)); break;
            case 11: same("point(" + q + ", " + a + ")", boxes.point(q, a), reference.point(q, a)); break;
            case 12: same("type(" + p + ")", boxes.type(p), reference.type(p)); break;
            case 13: reads(); break;
            case 14: same("told(" + a + ")", boxes.told(a), reference.told(a)); break;
            default: same("back()", boxes.back(), reference.back());
        }
        if (random.nextInt(20) == 0) {
            same("digest()", boxes.digest(), reference.digest());
        }
    }

    private void reads() {
        if (random.nextInt(4) == 0) {
            same("clear()", boxes.clear(), reference.clear());
        }
        same("reads()", boxes.reads(), reference.reads());
    }
}
