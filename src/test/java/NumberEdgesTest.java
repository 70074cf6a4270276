import java.util.Random;

/** Boundary cases of numbers and places: the terms of section 1, promises 11 and 14 to 18. */
public final class NumberEdgesTest extends Edges {
    private static final int TWO_TO_24 = at(16777216f);

    public static void main(String[] args) {
        twoZerosNoInfinities();
        placesWithSignBit0();
        placesWithSignBit1();
        placesRise();
        infinitiesCount();
        infinitiesComeOutBySum();
        infinitiesComeOutByProduct();
        halvesOfSums();
        sumsOfLittleOnes();
        sumsOfZeros();
        halvesOfProducts();
        roundedOnce();
        signsOfProducts();
        mostOfZeros();
        lessOfZeros();
        sameOfZeros();
        turnedAtEnds();
        holdsBitByBit();
        doesAnyZ();
        doesBad();
        wholeHalves();
        wholeZero();
        narrowHalves();
        narrowLittle();
        narrowZero();
        narrowNotANumber();
        narrowInfinity();
        wideAtEnds();
        wideBad();
        reckonsInfinities();
        reckonsBad();
        restAsFloat();
        restBad();
        restNotANumber();
        Check.finish();
    }

    private static void twoZerosNoInfinities() {
        says("A NUMBER is a float that is neither infinite nor not-a-number, -0.0 and 0.0 two of them.");
        due("unknown of both zeros", b.unknown(-1, 0), 0);
        due("they are two", b.holding(0), 2);
        due("wide(-0.0)", b.wide(-1), bits(-0.0));
        due("wide(0.0)", b.wide(0), bits(0.0));
        refuses(BAD, "infinity as HIGH", () -> b.unknown(0, INFINITY));
        refuses(BAD, "-infinity as LOW", () -> b.unknown(MINUS_INFINITY, 0));
        refuses(BAD, "the bits of a not-a-number", () -> b.unknown(0, 0x7fc00000));
    }

    private static void placesWithSignBit0() {
        says("of those with sign bit 0 their bits as a whole number (0.0: 0; the greatest 2139095039)");
        due("wide of 0", b.wide(0), bits(0.0));
        due("wide of the greatest", b.wide(2139095039), bits(Float.MAX_VALUE));
        due("narrow of the greatest", b.narrow(bits(Float.MAX_VALUE)), 2139095039);
        due("the greatest is a PLACE", b.unknown(2139095039, 2139095039), 0);
        refuses(BAD, "the one behind is none", () -> b.unknown(2139095039, 2139095040));
    }

    private static void placesWithSignBit1() {
        says("of others -1 less (their bits without the sign bit) (-0.0: -1; the least -2139095040).");
        due("wide of -1", b.wide(-1), bits(-0.0));
        due("wide of the least", b.wide(-2139095040), bits(-Float.MAX_VALUE));
        due("narrow of the least", b.narrow(bits(-Float.MAX_VALUE)), -2139095040);
        due("narrow of the greatest below zero", b.narrow(bits(-Float.MIN_VALUE)), -2);
        due("the least is a PLACE", b.unknown(-2139095040, -2139095040), 0);
        refuses(BAD, "the one ahead is none", () -> b.unknown(-2139095041, -2139095040));
    }

    private static void placesRise() {
        says("PLACES rise as NUMBERS do, -0.0 ahead of 0.0.");
        int[] lower = {LEAST, -16777217, -8388610, -8388609, -8388608, -3, -2, 0, 1, 8388606, 8388607, 8388608,
            16777215, 1065353215, 1065353216, GREATEST - 1};
        for (int p : lower) {
            double low = Double.longBitsToDouble(b.wide(p)), high = Double.longBitsToDouble(b.wide(p + 1));
            isTrue("number at " + p + " below its neighbour", low < high);
            due("does(LESS) of " + p + " and its neighbour", b.does(LESS, p, p + 1, 0), 1);
        }
        due("-0.0 ahead of 0.0", b.does(MOST, -1, 0, 0), 1);
        due("0.0 behind -0.0", b.does(MOST, 0, -1, 0), 1);
        due("not the other way", b.does(MOST, -1, 0, -1), 0);
    }

    private static void infinitiesCount() {
        says("The PLACE of infinity, should it come out, counts as 2139095040, of -infinity as -2139095041.");
        due("S", b.reckons(0, GREATEST, GREATEST), 2139095040);
        due("S below", b.reckons(0, LEAST, LEAST), -2139095041);
        due("M", b.reckons(1, LEAST, LEAST), 2139095040);
        due("M below", b.reckons(1, LEAST, GREATEST), -2139095041);
        ranges(GREATEST, GREATEST, GREATEST, GREATEST, LEAST, GREATEST);
        b.rule(SUM, 0, 1, 2);
        due("nothing of z is as great", b.would(0, 2, 0), NONE);
        b.range(1, 0, GREATEST);
        due("it is above all HIGHS", b.would(0, 2, 1), GREATEST);
        b.range(0, LEAST, LEAST);
        b.range(1, LEAST, 0);
        due("-infinity is below all LOWS", b.would(0, 2, 0), LEAST);
    }

    private static void infinitiesComeOutBySum() {
        says("rounded once to the nearest, halves to the even one");
        int half = at(0x1p103f);
        due("S of the greatest and half a step", b.reckons(0, GREATEST, half), INFINITY);
        due("S of the greatest and a bit less", b.reckons(0, GREATEST, half - 1), GREATEST);
        due("S of the least and half a step", b.reckons(0, at(-0x1p103f), LEAST), MINUS_INFINITY);
        due("S of the least and a bit less", b.reckons(0, at(-0x1p103f) + 1, LEAST), LEAST);
        due("S of both ends", b.reckons(0, LEAST, GREATEST), 0);
        due("S of two halves of what is too great", b.reckons(0, at(0x1p127f), at(0x1p127f)), INFINITY);
        due("S just below", b.reckons(0, at(0x1p127f) - 1, at(0x1p127f) - 1), GREATEST);
    }

    private static void infinitiesComeOutByProduct() {
        says("rounded once to the nearest, halves to the even one");
        due("M 2^127", b.reckons(1, at(0x1p63f), at(0x1p64f)), at(0x1p127f));
        due("M 2^128", b.reckons(1, at(0x1p64f), at(0x1p64f)), INFINITY);
        due("M -2^128", b.reckons(1, at(-0x1p64f), at(0x1p64f)), MINUS_INFINITY);
        due("M of the greatest by 1", b.reckons(1, GREATEST, at(1)), GREATEST);
        due("M of the greatest by the one behind 1", b.reckons(1, GREATEST, at(1) + 1), INFINITY);
        due("M of the greatest by the one ahead of 1", b.reckons(1, GREATEST, at(1) - 1), GREATEST - 1);
        due("M of neighbours below 2^64", b.reckons(1, at(0x1p64f) - 1, at(0x1p64f) - 1), GREATEST - 1);
        for (long m = 8388609; m < 8388709; m++) {
            long by = (1L << 47) / m, less = (1L << 47) - m * by;
            int p = at((float) m) + (40 << 23), q = at((float) by) + (41 << 23);
            // half of the last step below 2^128 is as much as 2^22 here
            due("M below 2^128", b.reckons(1, p, q), less <= 1L << 22 ? INFINITY : Numbers.product(p, q));
        }
    }

    private static void halvesOfSums() {
        says("SUM and PRODUCT as float tells them, rounded once to the nearest, halves to the even one");
        due("S to the even one below", b.reckons(0, TWO_TO_24, at(1)), TWO_TO_24);
        due("S a bit above the half", b.reckons(0, TWO_TO_24, at(1) + 1), TWO_TO_24 + 1);
        due("S to the even one above", b.reckons(0, TWO_TO_24 + 1, at(1)), TWO_TO_24 + 2);
        due("S a bit below the half", b.reckons(0, TWO_TO_24 + 1, at(1) - 1), TWO_TO_24 + 1);
        due("S of below zero", b.reckons(0, at(-16777216f), at(-1)), at(-16777216f));
        due("S of below zero, a bit more", b.reckons(0, at(-16777216f), at(-1) - 1), at(-16777218f));
        due("S where steps are finer below", b.reckons(0, TWO_TO_24, at(-0.5f)), TWO_TO_24);
        due("S a bit more", b.reckons(0, TWO_TO_24, at(-0.5f) - 1), TWO_TO_24 - 1);
        due("S up to the next power", b.reckons(0, TWO_TO_24 - 1, at(0.5f)), TWO_TO_24);
        due("S not up to it", b.reckons(0, TWO_TO_24 - 1, at(0.5f) - 1), TWO_TO_24 - 1);
        for (int k = 20; k <= 30; k++) {
            int far = at(1) - (k << 23);
            due("S of 1 and 2^-" + k, b.reckons(0, at(1), far), Numbers.sum(at(1), far));
            due("S of 1 and -2^-" + k, b.reckons(0, at(1), -1 - far), Numbers.sum(at(1), -1 - far));
            due("S of 1 and a bit above 2^-" + k, b.reckons(0, far + 1, at(1)), Numbers.sum(far + 1, at(1)));
            due("S of 1 and a bit below -2^-" + k, b.reckons(0, -2 - far, at(1)), Numbers.sum(-2 - far, at(1)));
        }
    }

    private static void sumsOfLittleOnes() {
        says("S(p, q), M(p, q) are the PLACES of the sum, the product of the NUMBERS at PLACES p, q.");
        due("S of the least two", b.reckons(0, 1, 1), 2);
        due("S into the normal ones", b.reckons(0, 8388607, 1), 8388608);
        due("S out of the normal ones", b.reckons(0, 8388608, -2), 8388607);
        due("S of two normal ones to a little one", b.reckons(0, 8388609, at(-Float.MIN_NORMAL)), 1);
        due("S of the greatest and the least", b.reckons(0, GREATEST, 1), GREATEST);
        due("M of the greatest and the least", b.reckons(1, GREATEST, 1), Numbers.product(GREATEST, 1));
    }

    private static void sumsOfZeros() {
        says("SUM: x + y is z");
        due("S(-0.0, -0.0)", b.reckons(0, -1, -1), -1);
        due("S(-0.0, 0.0)", b.reckons(0, -1, 0), 0);
        due("S(0.0, -0.0)", b.reckons(0, 0, -1), 0);
        due("S(0.0, 0.0)", b.reckons(0, 0, 0), 0);
        due("S(5, -5)", b.reckons(0, at(5), at(-5)), 0);
        due("S(-5, 5)", b.reckons(0, at(-5), at(5)), 0);
        due("S of the least one and -0.0", b.reckons(0, -1, 1), 1);
        due("S of -0.0 and the one ahead", b.reckons(0, -1, -2), -2);
        due("S(5, -0.0)", b.reckons(0, at(5), -1), at(5));
    }

    private static void halvesOfProducts() {
        says("SUM and PRODUCT as float tells them, rounded once to the nearest, halves to the even one");
        int half = at(0.5f);
        due("M half of the least to 0.0", b.reckons(1, 1, half), 0);
        due("M a bit more", b.reckons(1, 1, half + 1), 1);
        due("M half of the least below zero to -0.0", b.reckons(1, -2, half), -1);
        due("M a bit more below zero", b.reckons(1, -2, half + 1), -2);
        due("M one and a half", b.reckons(1, 3, half), 2);
        due("M two and a half", b.reckons(1, 5, half), 2);
        due("M three and a half", b.reckons(1, 7, half), 4);
        due("M into the normal ones", b.reckons(1, 16777215, half), 8388608);
        due("M below them", b.reckons(1, 16777213, half), 8388606);
        due("M far too little", b.reckons(1, 1, 1), 0);
        due("M far too little below", b.reckons(1, 1, -2), -1);
        due("M by 1", b.reckons(1, 1, at(1)), 1);
        // (1 + 2^-12)^2 is 1 + 2^-11 + 2^-24, half a step too much; the even one is below
        due("M of a half step", b.reckons(1, at(1) + 2048, at(1) + 2048), at(1) + 4096);
        // (1 + 2^-12)(1 + 3 * 2^-12) is 1 + 2^-10 + 3 * 2^-24, one step and a half; the even one is above
        due("M of a step and a half", b.reckons(1, at(1) + 2048, at(1) + 6144), at(1) + 8192 + 2);
    }

    private static void roundedOnce() {
        says("rounded once to the nearest");
        Random random = new Random(5);
        int found = 0;
        for (int turn = 0; turn < 2000000 && found < 40; turn++) {
            int p = 1 + random.nextInt(1 << 23), q = at(0x1p-13f) + random.nextInt(1 << 23);
            double exact = (double) Numbers.number(p) * Numbers.number(q);
            float once = (float) exact, twice = (float) ((float) (exact * 0x1p120) * 0x1p-120);
            if (once != twice) {
                found++;
                due("M(" + p + ", " + q + ")", b.reckons(1, p, q), at(once));
                due("M(-, " + q + ")", b.reckons(1, -1 - p, q), at(-once));
            }
        }
        due("products that rounding twice would spoil", found, 40);
    }

    private static void signsOfProducts() {
        says("1 PRODUCT: x times y is z");
        due("M(0.0, 0.0)", b.reckons(1, 0, 0), 0);
        due("M(-0.0, 0.0)", b.reckons(1, -1, 0), -1);
        due("M(0.0, -0.0)", b.reckons(1, 0, -1), -1);
        due("M(-0.0, -0.0)", b.reckons(1, -1, -1), 0);
        due("M(5, -0.0)", b.reckons(1, at(5), -1), -1);
        due("M(-5, -0.0)", b.reckons(1, at(-5), -1), 0);
        due("M of the greatest and 0.0", b.reckons(1, GREATEST, 0), 0);
        due("M of the least and 0.0", b.reckons(1, LEAST, 0), -1);
    }

    private static void mostOfZeros() {
        says("2 MOST: z is that of x and y with the greater PLACE");
        due("0.0 of both zeros", b.does(MOST, -1, 0, 0), 1);
        due("not -0.0", b.does(MOST, 0, -1, -1), 0);
        due("alike", b.does(MOST, -1, -1, -1), 1);
        due("the ends", b.does(MOST, LEAST, GREATEST, GREATEST), 1);
        due("neither of them", b.does(MOST, 3, 4, 5), 0);
        due("the lesser", b.does(MOST, 3, 4, 3), 0);
    }

    private static void lessOfZeros() {
        says("3 LESS: x is less than y (-0.0 is not less than 0.0)");
        due("-0.0, 0.0", b.does(LESS, -1, 0, 0), 0);
        due("0.0, -0.0", b.does(LESS, 0, -1, 0), 0);
        due("-0.0 and the one behind zeros", b.does(LESS, -1, 1, 0), 1);
        due("the one ahead of zeros, 0.0", b.does(LESS, -2, 0, 0), 1);
        due("the one ahead of zeros, -0.0", b.does(LESS, -2, -1, 0), 1);
        due("0.0 and the one behind", b.does(LESS, 0, 1, 0), 1);
        due("the least, the greatest", b.does(LESS, LEAST, GREATEST, 0), 1);
        due("the greatest, the least", b.does(LESS, GREATEST, LEAST, 0), 0);
        due("alike", b.does(LESS, GREATEST, GREATEST, 0), 0);
    }

    private static void sameOfZeros() {
        says("4 SAME: x is as much as y (-0.0 is as much as 0.0)");
        due("-0.0, 0.0", b.does(SAME, -1, 0, 0), 1);
        due("0.0, -0.0", b.does(SAME, 0, -1, 0), 1);
        due("-0.0, -0.0", b.does(SAME, -1, -1, 0), 1);
        due("0.0 and the one behind", b.does(SAME, 0, 1, 0), 0);
        due("-0.0 and the one ahead", b.does(SAME, -1, -2, 0), 0);
        due("the one ahead and the one behind", b.does(SAME, -2, 1, 0), 0);
        due("the ends", b.does(SAME, LEAST, GREATEST, 0), 0);
        due("the least", b.does(SAME, LEAST, LEAST, 0), 1);
    }

    private static void turnedAtEnds() {
        says("5 TURNED: y is x with the other sign bit.");
        due("0.0, -0.0", b.does(TURNED, 0, -1, 0), 1);
        due("-0.0, 0.0", b.does(TURNED, -1, 0, 0), 1);
        due("0.0, 0.0", b.does(TURNED, 0, 0, 0), 0);
        due("-0.0, -0.0", b.does(TURNED, -1, -1, 0), 0);
        due("the ends", b.does(TURNED, LEAST, GREATEST, 0), 1);
        due("the ends the other way", b.does(TURNED, GREATEST, LEAST, 0), 1);
        due("one off", b.does(TURNED, GREATEST, LEAST + 1, 0), 0);
    }

    private static void holdsBitByBit() {
        says("A RULE HOLDS of NUMBERS, if it is so bit by bit (SUM, PRODUCT, MOST, TURNED: the PLACE that comes out");
        due("SUM to 0.0", b.does(SUM, -1, 0, 0), 1);
        due("SUM not to -0.0", b.does(SUM, -1, 0, -1), 0);
        due("SUM to -0.0", b.does(SUM, -1, -1, -1), 1);
        due("SUM a step off", b.does(SUM, at(1), at(2), at(3) - 1), 0);
        due("PRODUCT to -0.0", b.does(PRODUCT, -1, at(3), -1), 1);
        due("PRODUCT not to 0.0", b.does(PRODUCT, -1, at(3), 0), 0);
        due("PRODUCT a step off", b.does(PRODUCT, at(2), at(3), at(6) + 1), 0);
        due("no NUMBER is an infinite SUM", b.does(SUM, GREATEST, GREATEST, GREATEST), 0);
        due("no NUMBER is an infinite PRODUCT", b.does(PRODUCT, GREATEST, LEAST, LEAST), 0);
    }

    private static void doesAnyZ() {
        says("Whether a RULE of a KIND HOLDS of the NUMBERS at PLACES x, y, z (z of 3, 4, 5: any): 1, 0.");
        int[] any = {Integer.MIN_VALUE, MINUS_INFINITY, LEAST, -1, 0, 1, GREATEST, INFINITY, Integer.MAX_VALUE};
        for (int z : any) {
            due("LESS, z " + z, b.does(LESS, 1, 2, z), 1);
            due("SAME, z " + z, b.does(SAME, 1, 2, z), 0);
            due("TURNED, z " + z, b.does(TURNED, 1, -2, z), 1);
        }
        due("none was refused", b.told(0), 0);
        due("the ends are PLACES", b.does(MOST, LEAST, LEAST, LEAST), 1);
        due("the ends are PLACES", b.does(MOST, GREATEST, GREATEST, GREATEST), 1);
    }

    private static void doesBad() {
        says("`int does(int kind, int x, int y, int z)`");
        refuses(BAD, "KIND -1", () -> b.does(-1, 0, 0, 0));
        refuses(BAD, "KIND 6", () -> b.does(6, 0, 0, 0));
        for (int kind = SUM; kind <= TURNED; kind++) {
            int k = kind;
            refuses(BAD, "x too great", () -> b.does(k, INFINITY, 0, 0));
            refuses(BAD, "x too little", () -> b.does(k, MINUS_INFINITY, 0, 0));
            refuses(BAD, "y too great", () -> b.does(k, 0, INFINITY, 0));
            refuses(BAD, "y too little", () -> b.does(k, 0, MINUS_INFINITY, 0));
        }
        for (int kind = SUM; kind <= MOST; kind++) {
            int k = kind;
            refuses(BAD, "z too great", () -> b.does(k, GREATEST, GREATEST, INFINITY));
            refuses(BAD, "z too little", () -> b.does(k, LEAST, LEAST, MINUS_INFINITY));
        }
    }

    private static void wholeHalves() {
        says("The PLACE of the NUMBER nearest to a whole number v (halves to the even one; 0 is 0.0).");
        due("2^24", b.whole(16777216), TWO_TO_24);
        due("the half above", b.whole(16777217), TWO_TO_24);
        due("2^24 + 2", b.whole(16777218), TWO_TO_24 + 1);
        due("the next half", b.whole(16777219), TWO_TO_24 + 2);
        due("the half below zero", b.whole(-16777217), at(-16777216f));
        due("the next half below zero", b.whole(-16777219), at(-16777220f));
        due("2^25 + 1", b.whole(33554433), at(33554432f));
        due("2^25 + 2, a half", b.whole(33554434), at(33554432f));
        due("2^25 + 3", b.whole(33554435), at(33554436f));
        due("2^25 + 6, a half", b.whole(33554438), at(33554440f));
        due("2^31 - 129 is nearer below", b.whole(2147483583), at(0x1p31f) - 1);
        due("2^31 - 64, a half", b.whole(2147483584), at(0x1p31f));
        due("the greatest int", b.whole(Integer.MAX_VALUE), at(0x1p31f));
        due("the least int", b.whole(Integer.MIN_VALUE), at(-0x1p31f));
        due("the next one", b.whole(Integer.MIN_VALUE + 1), at(-0x1p31f));
        due("none is refused", b.told(0) + b.told(1) + b.told(2), 0);
    }

    private static void wholeZero() {
        says("halves to the even one; 0 is 0.0");
        due("0", b.whole(0), 0);
        due("1", b.whole(1), at(1));
        due("-1", b.whole(-1), at(-1));
    }

    private static void narrowHalves() {
        says("The PLACE of the NUMBER nearest to the double of those bits (halves to the even one; -0.0 is -0.0).");
        due("the half behind 1", b.narrow(bits(1 + 0x1p-24)), at(1));
        due("a bit above it", b.narrow(bits(1 + 0x1p-24) + 1), at(1) + 1);
        due("the next half", b.narrow(bits(1 + 0x1.8p-23)), at(1) + 2);
        due("a bit below it", b.narrow(bits(1 + 0x1.8p-23) - 1), at(1) + 1);
        due("the half behind -1", b.narrow(bits(-1 - 0x1p-24)), at(-1));
        due("a bit beyond it", b.narrow(bits(-1 - 0x1p-24) + 1), at(-1) - 1);
        due("the half below 2", b.narrow(bits(2 - 0x1p-24)), at(2));
        due("a bit below it", b.narrow(bits(2 - 0x1p-24) - 1), at(2) - 1);
    }

    private static void narrowLittle() {
        says("The PLACE of the NUMBER nearest to the double of those bits");
        due("half of the least", b.narrow(bits(0x1p-150)), 0);
        due("a bit more", b.narrow(bits(0x1p-150) + 1), 1);
        due("a bit less", b.narrow(bits(0x1p-150) - 1), 0);
        due("the least", b.narrow(bits(0x1p-149)), 1);
        due("one and a half", b.narrow(bits(0x1.8p-149)), 2);
        due("two and a half", b.narrow(bits(0x1.4p-148)), 2);
        due("the half below the normal ones", b.narrow(bits(0x1p-126 - 0x1p-150)), 8388608);
        due("a bit less", b.narrow(bits(0x1p-126 - 0x1p-150) - 1), 8388607);
        due("the least normal one", b.narrow(bits(0x1p-126)), 8388608);
        due("the least double", b.narrow(1L), 0);
        due("the least double below zero", b.narrow(Long.MIN_VALUE + 1), -1);
        due("the greatest that is not normal", b.narrow(0x000fffffffffffffL), 0);
        due("the least normal double", b.narrow(0x0010000000000000L), 0);
        due("the least normal double below zero", b.narrow(0x8010000000000000L), -1);
        due("half of the least below zero", b.narrow(bits(-0x1p-150)), -1);
    }

    private static void narrowZero() {
        says("-0.0 is -0.0");
        due("0.0", b.narrow(0L), 0);
        due("-0.0", b.narrow(Long.MIN_VALUE), -1);
    }

    private static void narrowNotANumber() {
        says("BAD: not-a-number; NO: an infinity comes out.");
        long[] none = {0x7ff0000000000001L, 0x7ff8000000000000L, 0x7fffffffffffffffL, 0xfff0000000000001L,
            0xfff8000000000000L, -1L, 0x7ff0000080000000L};
        for (long bits : none) {
            refuses(BAD, "narrow(" + bits + ")", () -> b.narrow(bits));
        }
    }

    private static void narrowInfinity() {
        says("NO: an infinity comes out.");
        refuses(NO, "infinity", () -> b.narrow(0x7ff0000000000000L));
        refuses(NO, "-infinity", () -> b.narrow(0xfff0000000000000L));
        refuses(NO, "the half behind the greatest", () -> b.narrow(bits(0x1.ffffffp127)));
        refuses(NO, "the half ahead of the least", () -> b.narrow(bits(-0x1.ffffffp127)));
        refuses(NO, "2^128", () -> b.narrow(bits(0x1p128)));
        refuses(NO, "the greatest double", () -> b.narrow(bits(Double.MAX_VALUE)));
        due("a bit below the half", b.narrow(bits(0x1.ffffffp127) - 1), GREATEST);
        due("a bit above the half ahead of the least", b.narrow(bits(-0x1.ffffffp127) - 1), LEAST);
    }

    private static void wideAtEnds() {
        says("The bits of the double that is the NUMBER at a PLACE.");
        int[] places = {LEAST, LEAST + 1, -8388610, -8388609, -8388608, -3, -2, -1, 0, 1, 2, 3, 8388607, 8388608,
            8388609, GREATEST - 1, GREATEST};
        for (int p : places) {
            due("wide(" + p + ")", b.wide(p), bits(Numbers.number(p)));
        }
        due("none is refused", b.told(0), 0);
    }

    private static void wideBad() {
        says("BAD: -1.");
        refuses(BAD, -1, "infinity", () -> b.wide(INFINITY));
        refuses(BAD, -1, "-infinity", () -> b.wide(MINUS_INFINITY));
        refuses(BAD, -1, "the greatest int", () -> b.wide(Integer.MAX_VALUE));
        refuses(BAD, -1, "the least int", () -> b.wide(Integer.MIN_VALUE));
    }

    private static void reckonsInfinities() {
        says("S (which 0), M (1) of two PLACES, as told also infinities'.");
        due("S", b.reckons(0, GREATEST, GREATEST), 2139095040);
        due("M", b.reckons(1, GREATEST, LEAST), -2139095041);
        due("they are not refused", b.told(0) + b.told(1), 0);
    }

    private static void reckonsBad() {
        says("`int reckons(int which, int p, int q)`");
        refuses(BAD, "which -1", () -> b.reckons(-1, 0, 0));
        refuses(BAD, "which 2", () -> b.reckons(2, 0, 0));
        for (int which = 0; which <= 1; which++) {
            int w = which;
            refuses(BAD, "p too great", () -> b.reckons(w, INFINITY, 0));
            refuses(BAD, "p too little", () -> b.reckons(w, MINUS_INFINITY, 0));
            refuses(BAD, "q too great", () -> b.reckons(w, 0, INFINITY));
            refuses(BAD, "q too little", () -> b.reckons(w, 0, MINUS_INFINITY));
        }
    }

    private static void restAsFloat() {
        says("What is left over of the NUMBER at p by that at q, as float tells it by %: its PLACE.");
        due("as much as q", b.rest(at(5), at(5)), 0);
        due("as much as q, below zero", b.rest(at(-5), at(5)), -1);
        due("q below zero", b.rest(at(5), at(-5)), 0);
        due("a step below q", b.rest(at(5) - 1, at(5)), at(5) - 1);
        due("a step above q", b.rest(at(5) + 1, at(5)), at(0x1p-21f));
        due("far below q", b.rest(at(1.5f), at(5)), at(1.5f));
        due("the least above zero by the greatest", b.rest(1, GREATEST), 1);
        due("the greatest below zero by the least", b.rest(-2, LEAST), -2);
        due("far below zero, not as far as q", b.rest(at(-1.5f), at(-1e30f)), at(-1.5f));
        due("p 0.0", b.rest(0, 1), 0);
        due("p -0.0", b.rest(-1, 1), -1);
        due("the sign is that of p", b.rest(at(7), at(-2)), at(1));
        due("the sign is that of p", b.rest(at(-7), at(-2)), at(-1));
        int[] far = {1, 2, 3, 7, 8388607, 8388608, 8388609, 12345678, at(1), at(3), at(0.1f), at(1e30f), GREATEST - 1};
        for (int q : far) {
            int want = at(Float.MAX_VALUE % Numbers.number(q));
            due("the greatest by " + q, b.rest(GREATEST, q), want);
            due("the least by " + q, b.rest(LEAST, q), -1 - want);
            due("by " + (-1 - q), b.rest(GREATEST, -1 - q), want);
        }
    }

    private static void restBad() {
        says("`int rest(int p, int q)`");
        refuses(BAD, "p too great", () -> b.rest(INFINITY, 1));
        refuses(BAD, "p too little", () -> b.rest(MINUS_INFINITY, 1));
        refuses(BAD, "q too great", () -> b.rest(1, INFINITY));
        refuses(BAD, "q too little", () -> b.rest(1, MINUS_INFINITY));
        refuses(BAD, "BAD goes ahead of NO", () -> b.rest(INFINITY, 0));
    }

    private static void restNotANumber() {
        says("NO: it is not-a-number.");
        refuses(NO, "by 0.0", () -> b.rest(at(1), 0));
        refuses(NO, "by -0.0", () -> b.rest(at(1), -1));
        refuses(NO, "0.0 by 0.0", () -> b.rest(0, 0));
        refuses(NO, "the greatest by -0.0", () -> b.rest(GREATEST, -1));
        due("by the least is a number", b.rest(at(1), 1), 0);
        due("by the least below zero, too", b.rest(at(1), -2), 0);
    }
}
