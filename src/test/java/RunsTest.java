import java.util.Random;

/** Promises 1 to 13 and 19 to 24: runs of calls by chance against the reference. */
public final class RunsTest {
    private static final int RUNS = 6000;
    private static final int STEPS = 120;
    /** An object is promised for 512 calls; a step makes fewer than 30. */
    private static final int MOST_CALLS = 480;
    private static final String[] ORDERS = {"c;", "x0;", "x1;", "u 0 0;", "u 1 1;", "u-3-3;", "u 16777216 16777218;",
        "u 2 1;", "k 0 0 1 2;", "k 1 0 1 2;", "k 2 1 0 2;", "k 3 0 1 0;", "k 4 0 1 0;", "k 5 0 1 0;", "k 5 0 1 1;", "q"};

    private final Random random;
    private final FloatBoxes boxes = new FloatBoxes();
    private final Reference reference = new Reference();
    private final int[] bases = new int[3];
    private final String name;
    private final boolean isWide;
    private int calls = 0;

    private RunsTest(int run) {
        random = new Random(run);
        isWide = run % 2 == 1;
        name = "run " + run + ": ";
        for (int i = 0; i < bases.length; i++) {
            bases[i] = random.nextBoolean() ? Numbers.anyPlace(random) : Numbers.middlePlace(random);
        }
        if (random.nextBoolean()) {
            int third = random.nextBoolean() ? Numbers.sum(bases[0], bases[1]) : Numbers.product(bases[0], bases[1]);
            bases[2] = Numbers.clamp(third);
        }
    }

    public static void main(String[] args) {
        for (int run = 0; run < RUNS; run++) {
            RunsTest test = new RunsTest(run);
            for (int step = 0; step < STEPS && test.calls < MOST_CALLS; step++) {
                test.anyCall();
            }
        }
        Check.finish();
    }

    private void same(String call, long got, long want) {
        calls++;
        Check.due(name + call, got, want);
    }

    /** Mostly what is there, at times a bit too low or too high. */
    private int about(int end) {
        return random.nextInt(12) == 0 ? random.nextInt(end + 4) - 2 : end <= 0 ? 0 : random.nextInt(end);
    }

    private int unknownNumber() {
        return about(reference.told(4));
    }

    private int ruleNumber() {
        return about(reference.told(5));
    }

    /** Often the same number, as what was solved before must not be told of what is there now. */
    private int boxesToTake() {
        return random.nextInt(9) == 0 ? random.nextInt(64) - 1 : random.nextBoolean() ? 60 : 1 + random.nextInt(60);
    }

    private int low() {
        int base = random.nextInt(4) == 0 ? -3 : bases[random.nextInt(bases.length)];
        long down = isWide ? (random.nextInt() & 0xffffffffL) >>> random.nextInt(32) : random.nextInt(13) - 6;
        return random.nextInt(40) == 0 ? random.nextInt() : Numbers.clamp(base - down);
    }

    private int highOf(int low) {
        if (low < Numbers.LEAST || low > Numbers.GREATEST) {
            return low;
        }
        long wide = isWide && random.nextInt(3) > 0 ? random.nextInt() & 0xffffffffL : 40L;
        long high = low + (wide >>> random.nextInt(isWide ? 31 : 4)) - random.nextInt(4);
        return random.nextInt(40) == 0 ? low - 1 : Numbers.clamp(Math.max(low, high));
    }

    private void anyCall() {
        switch (random.nextInt(16)) {
            case 0:
            case 1:
                unknown();
                break;
            case 2:
                range();
                break;
            case 3:
            case 4:
                rule();
                break;
            case 5: {
                int k = ruleNumber();
                if (random.nextBoolean()) {
                    same("drops(" + k + ")", boxes.drops(k), reference.drops(k));
                }
                break;
            }
            case 6:
                if (random.nextInt(3) == 0) {
                    same("cuts()", boxes.cuts(), reference.cuts());
                }
                break;
            case 7:
                questions();
                break;
            case 8:
            case 9: {
                int k = ruleNumber(), u = unknownNumber(), what = about(2);
                same("would(" + k + ", " + u + ", " + what + ")", boxes.would(k, u, what),
                        reference.would(k, u, what));
                break;
            }
            case 10: {
                int n = boxesToTake(), what = about(3);
                same("solves(" + n + ", " + what + ")", boxes.solves(n, what), reference.solves(n, what));
                break;
            }
            case 11: {
                int n = boxesToTake(), u = unknownNumber();
                same("point(" + n + ", " + u + ")", boxes.point(n, u), reference.point(n, u));
                break;
            }
            case 12:
                text();
                break;
            case 13:
                if (random.nextInt(3) == 0) {
                    same("back()", boxes.back(), reference.back());
                }
                break;
            case 14: {
                int what = about(7);
                same("told(" + what + ")", boxes.told(what), reference.told(what));
                break;
            }
            default:
                same("digest()", boxes.digest(), reference.digest());
        }
    }

    private void unknown() {
        int low = low(), high = highOf(low);
        same("unknown(" + low + ", " + high + ")", boxes.unknown(low, high), reference.unknown(low, high));
    }

    private void range() {
        int u = unknownNumber(), low = low(), high = highOf(low);
        same("range(" + u + ", " + low + ", " + high + ")", boxes.range(u, low, high), reference.range(u, low, high));
    }

    private void rule() {
        int kind = about(6), x = unknownNumber(), y = unknownNumber();
        int z = kind > 2 && random.nextInt(9) > 0 ? 0 : unknownNumber();
        same("rule(" + kind + ", " + x + ", " + y + ", " + z + ")", boxes.rule(kind, x, y, z),
                reference.rule(kind, x, y, z));
    }

    private void questions() {
        int u = unknownNumber(), k = ruleNumber(), what = about(2), which = about(4), kind = about(6);
        same("of(" + u + ", " + what + ")", boxes.of(u, what), reference.of(u, what));
        same("holding(" + u + ")", boxes.holding(u), reference.holding(u));
        same("about(" + k + ", " + which + ")", boxes.about(k, which), reference.about(k, which));
        int x = low(), y = low(), z = low();
        same("does(" + kind + ", " + x + ", " + y + ", " + z + ")", boxes.does(kind, x, y, z),
                reference.does(kind, x, y, z));
    }

    private void text() {
        if (random.nextInt(4) == 0) {
            same("clear()", boxes.clear(), reference.clear());
        }
        String order = ORDERS[random.nextInt(ORDERS.length)];
        for (int i = 0; i < order.length(); i++) {
            same("type", boxes.type(order.charAt(i)), reference.type(order.charAt(i)));
        }
        same("reads()", boxes.reads(), reference.reads());
    }
}
