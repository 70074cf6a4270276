import java.util.Random;

/** Promises 11 and 14 to 18, against the machine's own floats. */
public final class NumbersTest {
    private static final int TURNS = 400;

    private static FloatBoxes boxes = new FloatBoxes();
    private static int calls = 0;

    /** An object is promised for 512 calls alone. */
    private static FloatBoxes fresh() {
        calls++;
        if (calls > 500) {
            boxes = new FloatBoxes();
            calls = 1;
        }
        return boxes;
    }

    public static void main(String[] args) {
        Random random = new Random(17);
        for (int turn = 0; turn < TURNS * 1000; turn++) {
            int p = random.nextBoolean() ? Numbers.anyPlace(random) : Numbers.middlePlace(random);
            int q = random.nextInt(4) == 0 ? Numbers.clamp(p + random.nextInt(99) - 49L)
                    : random.nextInt(3) == 0 ? Numbers.clamp(-1L - p + random.nextInt(99) - 49)
                    : random.nextBoolean() ? Numbers.anyPlace(random) : Numbers.middlePlace(random);
            checkPair(p, q);
        }
        int[] edges = {Numbers.LEAST, Numbers.LEAST + 1, -2, -1, 0, 1, 2, Numbers.GREATEST, 8388607, 8388608, 8388609,
            -8388608, -8388609, 16777216, 1065353216, -1065353217, 1073741824, 1266679807, 1266679808};
        for (int p : edges) {
            for (int q : edges) {
                checkPair(p, q);
            }
        }
        for (int turn = 0; turn < TURNS * 500; turn++) {
            checkWide(Numbers.anyPlace(random));
            checkWhole(random.nextInt() >> random.nextInt(32));
            checkNarrow(anyDouble(random));
        }
        checkEdgesOfWhole();
        checkEdgesOfNarrow();
        Check.finish();
    }

    private static void checkPair(int p, int q) {
        int sum = Numbers.sum(p, q), product = Numbers.product(p, q);
        String of = p + ", " + q + ")";
        Check.due("reckons(0, " + of, fresh().reckons(0, p, q), sum);
        Check.due("reckons(1, " + of, fresh().reckons(1, p, q), product);
        float rest = Numbers.number(p) % Numbers.number(q);
        Check.due("rest(" + of, fresh().rest(p, q), Float.isNaN(rest) ? Numbers.NO : Numbers.place(rest));
        int z = Numbers.clamp(sum), w = Numbers.clamp(product);
        Check.due("does(0, " + of, fresh().does(0, p, q, z), z == sum ? 1 : 0);
        Check.due("does(1, " + of, fresh().does(1, p, q, w), w == product ? 1 : 0);
        Check.due("does(2, " + of, fresh().does(2, p, q, p), p >= q ? 1 : 0);
        Check.due("does(3, " + of, fresh().does(3, p, q, 7), Numbers.number(p) < Numbers.number(q) ? 1 : 0);
        Check.due("does(4, " + of, fresh().does(4, p, q, 7), Numbers.number(p) == Numbers.number(q) ? 1 : 0);
        int turned = Numbers.place(-Numbers.number(p));
        Check.due("does(5, " + of, fresh().does(5, p, q, 7), q == turned ? 1 : 0);
        Check.due("does(5, turned)", fresh().does(5, p, turned, 7), 1);
    }

    private static void checkWide(int p) {
        long bits = Double.doubleToRawLongBits(Numbers.number(p));
        Check.due("wide(" + p + ")", fresh().wide(p), bits);
        Check.due("narrow(" + bits + ")", fresh().narrow(bits), p);
    }

    private static void checkWhole(int v) {
        Check.due("whole(" + v + ")", fresh().whole(v), Numbers.place((float) v));
    }

    private static void checkNarrow(long bits) {
        double d = Double.longBitsToDouble(bits);
        int want = Double.isNaN(d) ? Numbers.BAD
                : Float.isInfinite((float) d) ? Numbers.NO : Numbers.place((float) d);
        Check.due("narrow(" + bits + ")", fresh().narrow(bits), want);
    }

    /** Bits of doubles, more often than not half between two floats or next to that. */
    private static long anyDouble(Random random) {
        if (random.nextInt(4) == 0) {
            return random.nextLong();
        }
        int p = Numbers.anyPlace(random);
        int q = Numbers.clamp(p + 1L);
        double half = ((double) Numbers.number(p) + (double) Numbers.number(q)) / 2;
        return Double.doubleToRawLongBits(half) + random.nextInt(5) - 2;
    }

    private static void checkEdgesOfWhole() {
        int[] edges = {0, 1, -1, 16777215, 16777216, 16777217, 16777218, 16777219, -16777217, -16777219,
            33554433, 33554434, 33554435, 33554438, Integer.MAX_VALUE, Integer.MIN_VALUE, Integer.MIN_VALUE + 1,
            2147483583, 2147483584, 2147483585};
        for (int v : edges) {
            checkWhole(v);
        }
    }

    private static void checkEdgesOfNarrow() {
        double[] edges = {0.0, -0.0, Double.MIN_VALUE, -Double.MIN_VALUE, Double.MAX_VALUE, -Double.MAX_VALUE,
            Double.MIN_NORMAL, Double.POSITIVE_INFINITY, Double.NEGATIVE_INFINITY, Double.NaN, Float.MIN_VALUE,
            Float.MIN_VALUE / 2.0, Math.nextUp(Float.MIN_VALUE / 2.0), Float.MIN_VALUE * 1.5, Float.MIN_NORMAL,
            Math.nextDown((double) Float.MIN_NORMAL), Float.MAX_VALUE, Math.nextUp((double) Float.MAX_VALUE),
            0x1.ffffffp127, Math.nextDown(0x1.ffffffp127), -0x1.ffffffp127, Math.nextUp(-0x1.ffffffp127), 0x1p128};
        for (double d : edges) {
            checkNarrow(Double.doubleToRawLongBits(d));
        }
        checkNarrow(0x7ff0000000000001L);
        checkNarrow(-1L);
        checkNarrow(0xfff8000000000000L);
    }
}
