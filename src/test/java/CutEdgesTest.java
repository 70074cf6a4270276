/** Boundary cases of cuts: section 2 up to CUTTING, promises 6 and 10. */
public final class CutEdgesTest extends Edges {
    public static void main(String[] args) {
        cutOnesToo();
        xAheadOfY();
        partOfTheRange();
        nothingIsLeft();
        noMoreIsCut();
        placesFromTo();
        sumForward();
        sumForwardInfinite();
        sumForwardZeros();
        sumBackAsRoundingLets();
        sumBackInfinite();
        sumBackZeros();
        sumBackNothing();
        sumBackToY();
        productForwardOfFour();
        productForwardInfinite();
        productForwardZeros();
        productBackByOnePart();
        productBackByBothParts();
        productBackHasGaps();
        productBackByZeros();
        productBackAtTheSplit();
        productBackAsRoundingLets();
        productBackInfinite();
        productNoneFits();
        productBackToY();
        mostForward();
        mostHighOfZ();
        mostHighOfOtherBelow();
        mostBackToY();
        lessX();
        lessY();
        sameX();
        sameY();
        turnedY();
        turnedX();
        zCountsForNothing();
        roundsByNumbers();
        aRoundThatCutNothing();
        emptyEnds();
        twelveRounds();
        emptyByTheTwelfth();
        asTheyWereAhead();
        cutsAnswers();
        cutsLeavesAState();
        wouldAlone();
        wouldEmpty();
        wouldBad();
        Check.finish();
    }

    /** The one rule of three unknowns x 0, y 1, z 2, all of whose places are allowed at first. */
    private static void oneRule(int kind) {
        again();
        if (kind <= MOST) {
            ranges(LEAST, GREATEST, LEAST, GREATEST, LEAST, GREATEST);
        } else {
            ranges(LEAST, GREATEST, LEAST, GREATEST);
        }
        due("rule(" + kind + ")", b.rule(kind, 0, 1, kind <= MOST ? 2 : 0), 0);
    }

    private static void wouldBe(String when, int u, int low, int high) {
        due("would(0, " + u + ", 0) " + when, b.would(0, u, 0), low);
        due("would(0, " + u + ", 1) " + when, b.would(0, u, 1), high);
    }

    private static void wouldBeEmpty(String when) {
        due("would(0, 0, 0) " + when, b.would(0, 0, 0), NONE);
    }

    private static void cutOnesToo() {
        says("A RULE CUTS RANGES, each from those as they are then (cut ones, too), in this order");
        ranges(at(1), at(10));
        b.rule(SUM, 0, 0, 0);
        // z: 2 to 10; x by LOW 2: 2 to 8; y by the HIGH 8: 2 to what and 2 is rounded to 8
        wouldBe("x + x is x", 0, at(2), at(6) + 1);
        again();
        ranges(at(1), at(10), at(2), at(3));
        b.rule(PRODUCT, 0, 1, 0);
        // z: 2 to 10; x: up to what 2 times is 10 or less; y: up to what 2 times is 5 or less
        wouldBe("x y is x", 0, at(2), at(5));
        wouldBe("y by x as it is cut", 1, at(2), at(2.5f));
        again();
        ranges(at(2), at(100));
        b.rule(PRODUCT, 0, 0, 0);
        // z: 4 to 100; x by LOW 4: 4 to 25; y by the HIGH 25: 4 to a quarter of it
        wouldBe("x x is x", 0, at(4), at(6.25f));
        again();
        ranges(-3, 7);
        b.rule(TURNED, 0, 0, 0);
        wouldBe("x turned is x", 0, -3, 2);
        again();
        ranges(5, 6);
        b.rule(LESS, 0, 0, 0);
        wouldBeEmpty("x less than x: 5 is left, then none above 5");
        b.range(0, 5, 7);
        wouldBe("one is left", 0, 6, 6);
    }

    private static void xAheadOfY() {
        says("A RULE CUTS RANGES, each from those as they are then (cut ones, too), in this order");
        ranges(-5, -3, 1, at(2));
        b.rule(SUM, 1, 0, 0);
        // by steps of the least: z is -3 to -2, then x 1 to 1, then y what and 1 is -2 or less; were y
        // cut ahead of x, none would be left
        wouldBe("y and z alike", 0, -4, -4);
        wouldBe("x", 1, 1, 1);
        again();
        ranges(1, 5, at(-10), at(3));
        b.rule(SUM, 1, 1, 0);
        // x is cut by its own HIGH and LOW as they are ahead of that cut, at both ends at once
        wouldBe("x and y alike", 1, at(-3) + 1, at(3) - 1);
    }

    private static void partOfTheRange() {
        says("so that what is left is the part of the RANGE told");
        oneRule(SUM);
        b.range(0, at(1), at(2));
        b.range(1, at(10), at(20));
        b.range(2, at(12), at(21));
        wouldBe("no wider than it was", 2, at(12), at(21));
        b.range(2, at(0), at(21));
        wouldBe("cut below alone", 2, at(11), at(21));
        b.range(2, at(12), at(30));
        wouldBe("cut above alone", 2, at(12), at(22));
    }

    private static void nothingIsLeft() {
        says("if nothing is left of one, all is EMPTY");
        oneRule(SUM);
        b.range(0, at(1), at(2));
        b.range(1, at(10), at(20));
        b.range(2, at(22), at(30));
        wouldBe("one is left", 2, at(22), at(22));
        b.range(2, at(22) + 1, at(30));
        wouldBeEmpty("above");
        b.range(2, at(1), at(11));
        wouldBe("one is left", 2, at(11), at(11));
        b.range(2, at(1), at(11) - 1);
        wouldBeEmpty("below");
    }

    private static void noMoreIsCut() {
        says("all is EMPTY, no more is cut.");
        ranges(0, 9, 0, 9, 5, 5, 3, 3);
        b.rule(LESS, 0, 1, 0);
        b.rule(LESS, 2, 3, 0);
        b.rule(LESS, 1, 0, 0);
        due("EMPTY by the second RULE", b.cuts(), NONE);
        rangeIs("as it was", 0, 0, 9);
        rangeIs("as it was", 1, 0, 9);
        due("of an UNKNOWN that the RULE does not name", b.would(1, 0, 0), NONE);
        due("the others would cut", b.would(0, 0, 1), 8);
    }

    private static void placesFromTo() {
        says("[a, b]: PLACES a to b.");
        oneRule(SUM);
        b.range(0, 1, 2);
        b.range(1, 10, 20);
        wouldBe("both ends are in", 2, 11, 22);
    }

    private static void sumForward() {
        says("SUM: z: [S(LOW of x, LOW of y), S(HIGH of x, HIGH of y)].");
        oneRule(SUM);
        b.range(0, at(-3), at(2));
        b.range(1, at(-10), at(20));
        wouldBe("z", 2, at(-13), at(22));
        b.range(0, at(16777216f), at(16777218f));
        b.range(1, at(1), at(1));
        wouldBe("rounded", 2, at(16777216f), at(16777220f));
    }

    private static void sumForwardInfinite() {
        says("SUM: z: [S(LOW of x, LOW of y), S(HIGH of x, HIGH of y)].");
        oneRule(SUM);
        wouldBe("all", 2, LEAST, GREATEST);
        b.range(0, at(0x1p127f) - 1, GREATEST);
        b.range(1, at(0x1p127f) - 1, GREATEST);
        wouldBe("LOW finite yet", 2, GREATEST, GREATEST);
        b.range(0, at(0x1p127f), GREATEST);
        b.range(1, at(0x1p127f), GREATEST);
        wouldBeEmpty("LOW infinite");
        b.range(0, LEAST, at(-0x1p127f) + 1);
        b.range(1, LEAST, at(-0x1p127f) + 1);
        wouldBe("HIGH finite yet", 2, LEAST, LEAST);
        b.range(0, LEAST, at(-0x1p127f));
        b.range(1, LEAST, at(-0x1p127f));
        wouldBeEmpty("HIGH -infinite");
    }

    private static void sumForwardZeros() {
        says("SUM: z: [S(LOW of x, LOW of y), S(HIGH of x, HIGH of y)].");
        oneRule(SUM);
        b.range(0, -1, 0);
        b.range(1, -1, -1);
        wouldBe("-0.0 to 0.0", 2, -1, 0);
        b.range(0, -1, -1);
        wouldBe("-0.0", 2, -1, -1);
        b.range(0, 0, 0);
        wouldBe("0.0", 2, 0, 0);
    }

    private static void sumBackAsRoundingLets() {
        says("Then x: those p for which S(p, HIGH of y) is LOW of z or more, and S(p, LOW of y) is HIGH of z or less.");
        oneRule(SUM);
        b.range(1, at(1), at(1));
        b.range(2, at(16777216f), at(16777216f));
        wouldBe("a whole step to both sides", 0, at(16777215f), at(16777216f));
        b.range(2, at(16777218f), at(16777218f));
        // 16777217 is rounded to 16777216, 16777219 to 16777220
        wouldBeEmpty("no p and 1 is 16777218");
        b.range(2, at(16777218f), at(16777220f));
        wouldBe("both odd steps are rounded to 16777220", 0, at(16777218f), at(16777220f));
        b.range(1, at(1), at(3));
        b.range(2, at(16777220f), at(16777220f));
        wouldBe("LOW of x by HIGH of y, HIGH of x by LOW of y", 0, at(16777216f), at(16777220f));
        b.range(1, at(2), at(5));
        b.range(2, at(4), at(6));
        // 5 less the one beyond 1 is half a step below 4, and 4 is even
        wouldBe("-1 to 4", 0, at(-1) - 1, at(4));
    }

    private static void sumBackInfinite() {
        says("Then x: those p for which S(p, HIGH of y) is LOW of z or more, and S(p, LOW of y) is HIGH of z or less.");
        oneRule(SUM);
        b.range(1, GREATEST, GREATEST);
        wouldBe("what does not come to infinity", 0, LEAST, at(0x1p103f) - 1);
        b.range(1, LEAST, LEAST);
        wouldBe("what does not come to -infinity", 0, at(-0x1p103f) + 1, GREATEST);
        b.range(2, LEAST, LEAST);
        // the least is odd, so that halves do not go to it
        wouldBe("what leaves the least", 0, at(-0x1p103f) + 1, at(0x1p103f) - 1);
    }

    private static void sumBackZeros() {
        says("Then x: those p for which S(p, HIGH of y) is LOW of z or more, and S(p, LOW of y) is HIGH of z or less.");
        oneRule(SUM);
        b.range(1, -1, 0);
        b.range(2, -1, -1);
        // S(-0.0, 0.0) is 0.0, which is LOW of z or more; S(0.0, -0.0) is 0.0, which is too much
        wouldBe("-0.0 comes of -0.0 alone", 0, -1, -1);
        b.range(1, 0, 0);
        wouldBeEmpty("by 0.0 no sum is -0.0");
        b.range(1, -1, -1);
        b.range(2, 0, 0);
        wouldBe("0.0 and -0.0 is 0.0", 0, 0, 0);
        b.range(1, 0, 0);
        wouldBe("both zeros and 0.0 are 0.0", 0, -1, 0);
        b.range(1, at(5), at(5));
        wouldBe("-5 and 5 is 0.0", 0, at(-5), at(-5));
        b.range(2, -1, -1);
        wouldBeEmpty("no sum with 5 is -0.0");
    }

    private static void sumBackNothing() {
        says("Then x: those p for which S(p, HIGH of y) is LOW of z or more");
        oneRule(SUM);
        b.range(0, at(16777216f), at(16777220f));
        b.range(1, at(1), at(1));
        b.range(2, at(16777218f), at(16777218f));
        wouldBeEmpty("z lies within what comes out, but no p comes to it");
        due("cuts()", b.cuts(), NONE);
    }

    private static void sumBackToY() {
        says("Then y likewise by x.");
        oneRule(SUM);
        b.range(0, at(1), at(1));
        b.range(2, at(16777216f), at(16777216f));
        wouldBe("a whole step to both sides", 1, at(16777215f), at(16777216f));
        b.range(0, at(2), at(5));
        b.range(2, at(4), at(6));
        wouldBe("-1 to 4", 1, at(-1) - 1, at(4));
        b.range(0, GREATEST, GREATEST);
        b.range(2, LEAST, GREATEST);
        wouldBe("what does not come to infinity", 1, LEAST, at(0x1p103f) - 1);
        b.range(0, -1, 0);
        b.range(2, -1, -1);
        wouldBe("-0.0 comes of -0.0 alone", 1, -1, -1);
    }

    private static void productForwardOfFour() {
        says("PRODUCT: z: from the least to the greatest of M of LOW, HIGH of x by LOW, HIGH of y (four).");
        oneRule(PRODUCT);
        b.range(0, at(2), at(3));
        b.range(1, at(5), at(7));
        wouldBe("LOW LOW to HIGH HIGH", 2, at(10), at(21));
        b.range(0, at(-3), at(-2));
        wouldBe("LOW HIGH to HIGH LOW", 2, at(-21), at(-10));
        b.range(1, at(-7), at(-5));
        wouldBe("HIGH HIGH to LOW LOW", 2, at(10), at(21));
        b.range(0, at(2), at(3));
        wouldBe("HIGH LOW to LOW HIGH", 2, at(-21), at(-10));
        b.range(0, at(-2), at(3));
        b.range(1, at(-5), at(7));
        wouldBe("HIGH LOW to HIGH HIGH", 2, at(-15), at(21));
        b.range(0, at(-4), at(2));
        wouldBe("LOW HIGH to LOW LOW", 2, at(-28), at(20));
    }

    private static void productForwardInfinite() {
        says("PRODUCT: z: from the least to the greatest of M of LOW, HIGH of x by LOW, HIGH of y (four).");
        oneRule(PRODUCT);
        wouldBe("all", 2, LEAST, GREATEST);
        b.range(0, at(0x1p64f), GREATEST);
        b.range(1, at(0x1p64f), GREATEST);
        wouldBeEmpty("the least of them infinite");
        b.range(1, at(0x1p63f), GREATEST);
        wouldBe("the least of them finite", 2, at(0x1p127f), GREATEST);
        b.range(1, LEAST, at(-0x1p64f));
        wouldBeEmpty("the greatest of them -infinite");
    }

    private static void productForwardZeros() {
        says("PRODUCT: z: from the least to the greatest of M of LOW, HIGH of x by LOW, HIGH of y (four).");
        oneRule(PRODUCT);
        b.range(0, at(-2), at(3));
        b.range(1, 0, 0);
        wouldBe("by 0.0", 2, -1, 0);
        b.range(1, -1, -1);
        wouldBe("by -0.0", 2, -1, 0);
        b.range(0, 0, at(3));
        wouldBe("sign bits 0 by -0.0", 2, -1, -1);
        b.range(1, 0, 0);
        wouldBe("sign bits 0 by 0.0", 2, 0, 0);
        b.range(0, 1, 1);
        b.range(1, at(-0.5f), at(0.5f));
        wouldBe("too little", 2, -1, 0);
    }

    private static void productBackByOnePart() {
        says("Then x: from the least to the greatest of all p of its RANGE that FIT");
        oneRule(PRODUCT);
        b.range(1, at(2), at(4));
        b.range(2, at(8), at(16));
        wouldBe("LOW of z by HIGH of y, HIGH of z by LOW of y", 0, at(2), at(8));
        b.range(2, at(-16), at(-8));
        wouldBe("z below zero", 0, at(-8), at(-2));
        b.range(2, at(-16), at(8));
        wouldBe("z of both signs", 0, at(-8), at(4));
        b.range(1, at(-4), at(-2));
        wouldBe("y below zero", 0, at(-4), at(8));
        b.range(2, at(8), at(16));
        wouldBe("y below zero, z above", 0, at(-8), at(-2));
        b.range(2, at(-16), at(-8));
        wouldBe("both below zero", 0, at(2), at(8));
        b.range(0, at(3), at(5));
        wouldBe("no wider than it was", 0, at(3), at(5));
    }

    private static void productBackByBothParts() {
        says("q to -1 at most or 0 to r (the part of y with sign bit 1, that with sign bit 0)");
        oneRule(PRODUCT);
        b.range(0, at(-10), at(10));
        b.range(1, at(-2), at(4));
        b.range(2, at(8), at(12));
        wouldBe("below zero by the one part, above by the other", 0, at(-10), at(10));
        b.range(0, at(-10), at(1));
        wouldBe("by the part with sign bit 1 alone", 0, at(-10), at(-4));
        b.range(0, at(-3), at(10));
        wouldBe("by the part with sign bit 0 alone", 0, at(2), at(10));
    }

    private static void productBackHasGaps() {
        says("from the least to the greatest of all p of its RANGE that FIT");
        oneRule(PRODUCT);
        b.range(0, at(-10), at(10));
        b.range(1, at(-1), at(1));
        b.range(2, at(5), at(8));
        wouldBe("what is between stays", 0, at(-10), at(10));
        b.range(0, at(-10), at(5) - 1);
        wouldBe("the greatest that FITS is -5", 0, at(-10), at(-5));
        b.range(0, at(-10), at(5));
        wouldBe("5 itself FITS", 0, at(-10), at(5));
        b.range(0, at(-5) + 1, at(10));
        wouldBe("the least that FITS is 5", 0, at(5), at(10));
        b.range(0, at(-5), at(10));
        wouldBe("-5 itself FITS", 0, at(-5), at(10));
    }

    private static void productBackByZeros() {
        says("the part of y with sign bit 1, that with sign bit 0");
        oneRule(PRODUCT);
        b.range(1, 0, 0);
        b.range(2, -1, -1);
        wouldBe("-0.0 by 0.0", 0, LEAST, -1);
        b.range(1, -1, -1);
        wouldBe("-0.0 by -0.0", 0, 0, GREATEST);
        b.range(2, 0, 0);
        wouldBe("0.0 by -0.0", 0, LEAST, -1);
        b.range(1, 0, 0);
        wouldBe("0.0 by 0.0", 0, 0, GREATEST);
        b.range(1, -1, 0);
        wouldBe("0.0 by both", 0, LEAST, GREATEST);
        b.range(2, 1, 1);
        wouldBeEmpty("no zero makes more");
        b.range(2, -2, -2);
        wouldBeEmpty("nor less");
    }

    private static void productBackAtTheSplit() {
        says("p FITS, if the RANGE of y has a part [q, r], q to -1 at most or 0 to r");
        oneRule(PRODUCT);
        b.range(0, at(1), at(2));
        b.range(1, at(-4), at(4));
        b.range(2, -1, -1);
        // the part from -4 to -0.0 alone comes to -0.0
        wouldBe("-0.0 by y up to -0.0", 0, at(1), at(2));
        wouldBe("y by x", 1, -1, -1);
        b.range(2, 0, 0);
        wouldBe("0.0 by y from 0.0", 0, at(1), at(2));
        wouldBe("y by x", 1, 0, 0);
        b.range(1, at(-4), 0);
        b.range(2, at(-3), at(5));
        wouldBe("y up to 0.0", 1, at(-3), 0);
        b.range(1, -1, at(4));
        wouldBe("y from -0.0", 1, -1, at(4));
        b.range(0, at(-2), at(-1));
        b.range(1, at(-4), -1);
        b.range(2, at(6), at(8));
        wouldBe("one part alone", 0, at(-2), at(-1.5f));
    }

    private static void productBackAsRoundingLets() {
        says("for which the lesser of M(p, q), M(p, r) is HIGH of z or less, and the greater one LOW of z or more");
        oneRule(PRODUCT);
        b.range(1, at(0.5f), at(0.5f));
        b.range(2, 2, 2);
        wouldBe("1.5 and 2.5 are rounded to 2", 0, 3, 5);
        b.range(2, 1, 1);
        wouldBe("0.5 is rounded to 0, 1.5 to 2", 0, 2, 2);
        b.range(2, 0, 0);
        wouldBe("0.5 is rounded to 0", 0, 0, 1);
        b.range(2, -1, -1);
        wouldBe("-0.5 is rounded to -0.0", 0, -2, -1);
        b.range(1, at(-0.5f), at(-0.5f));
        wouldBe("likewise by -0.5", 0, 0, 1);
        b.range(1, at(0.25f), at(0.5f));
        b.range(2, 2, 2);
        wouldBe("LOW by r, HIGH by q", 0, 3, 10);
    }

    private static void productBackInfinite() {
        says("for which the lesser of M(p, q), M(p, r) is HIGH of z or less, and the greater one LOW of z or more");
        oneRule(PRODUCT);
        b.range(1, at(0x1p64f), GREATEST);
        wouldBe("what does not come to infinities", 0, at(-0x1p64f) + 1, at(0x1p64f) - 1);
        b.range(1, LEAST, at(-0x1p64f));
        wouldBe("likewise below zero", 0, at(-0x1p64f) + 1, at(0x1p64f) - 1);
        b.range(2, GREATEST, GREATEST);
        b.range(1, GREATEST, GREATEST);
        wouldBe("what comes to the greatest", 0, at(1), at(1));
    }

    private static void productNoneFits() {
        says("nothing is left, if none FITS.");
        oneRule(PRODUCT);
        b.range(0, 1, 2);
        b.range(1, at(3), at(3));
        b.range(2, 4, 5);
        wouldBeEmpty("3 and 6 come out alone");
        b.range(2, 3, 5);
        wouldBe("one FITS", 0, 1, 1);
        b.range(2, 4, 6);
        wouldBe("the other FITS", 0, 2, 2);
        b.range(2, 3, 6);
        wouldBe("both FIT", 0, 1, 2);
        b.range(0, at(-4), at(4));
        b.range(1, at(-1), at(1));
        b.range(2, at(4), at(9));
        wouldBe("the ends of both parts alone", 0, at(-4), at(4));
        b.range(2, at(4) + 1, at(9));
        wouldBeEmpty("beyond them");
    }

    private static void productBackToY() {
        says("nothing is left, if none FITS. Then y likewise by x.");
        oneRule(PRODUCT);
        b.range(0, at(2), at(4));
        b.range(2, at(8), at(16));
        wouldBe("by one part", 1, at(2), at(8));
        b.range(0, at(-2), at(4));
        b.range(1, at(-10), at(1));
        b.range(2, at(8), at(12));
        wouldBe("by the part with sign bit 1 alone", 1, at(-10), at(-4));
        b.range(0, 0, 0);
        b.range(1, LEAST, GREATEST);
        b.range(2, -1, -1);
        wouldBe("-0.0 by 0.0", 1, LEAST, -1);
        b.range(0, at(3), at(3));
        b.range(1, 1, 2);
        b.range(2, 4, 5);
        wouldBeEmpty("none FITS");
    }

    private static void mostForward() {
        says("MOST: z: from the greater LOW of x, y to the greater HIGH.");
        oneRule(MOST);
        b.range(0, 0, 9);
        b.range(1, 3, 5);
        wouldBe("LOW of y, HIGH of x", 2, 3, 9);
        b.range(0, 4, 4);
        wouldBe("LOW of x, HIGH of y", 2, 4, 5);
        b.range(0, -1, -1);
        b.range(1, 0, 0);
        wouldBe("0.0 is the greater", 2, 0, 0);
        b.range(0, LEAST, GREATEST);
        b.range(1, LEAST, LEAST);
        wouldBe("all", 2, LEAST, GREATEST);
        b.range(2, LEAST, 4);
        b.range(1, 5, 9);
        wouldBeEmpty("z below the greater LOW");
        b.range(2, 10, GREATEST);
        b.range(0, 0, 8);
        wouldBeEmpty("z above the greater HIGH");
        b.range(2, 9, GREATEST);
        wouldBe("one is left", 2, 9, 9);
    }

    private static void mostHighOfZ() {
        says("Then x: HIGH of z at most");
        oneRule(MOST);
        b.range(0, 0, 9);
        b.range(1, 0, 9);
        b.range(2, 0, 6);
        wouldBe("x", 0, 0, 6);
        b.range(0, 6, 9);
        wouldBe("one is left", 0, 6, 6);
        b.range(0, 7, 9);
        wouldBeEmpty("all above");
    }

    private static void mostHighOfOtherBelow() {
        says("and, if HIGH of y is below LOW of z, LOW of z at least.");
        oneRule(MOST);
        b.range(0, 0, 9);
        b.range(1, 0, 4);
        b.range(2, 5, 8);
        wouldBe("HIGH of y below LOW of z", 0, 5, 8);
        b.range(1, 0, 5);
        wouldBe("HIGH of y as LOW of z", 0, 0, 8);
        b.range(1, -5, -1);
        b.range(2, 0, 8);
        b.range(0, -9, 9);
        wouldBe("-0.0 is below 0.0", 0, 0, 8);
    }

    private static void mostBackToY() {
        says("LOW of z at least. Then y likewise by x.");
        oneRule(MOST);
        b.range(0, 0, 4);
        b.range(1, 0, 9);
        b.range(2, 5, 8);
        wouldBe("HIGH of x below LOW of z", 1, 5, 8);
        b.range(0, 0, 5);
        wouldBe("HIGH of x as LOW of z", 1, 0, 8);
        b.range(1, 9, 9);
        wouldBeEmpty("y above HIGH of z");
    }

    private static void lessX() {
        says("LESS: x: those less than the NUMBER at HIGH of y.");
        oneRule(LESS);
        b.range(1, LEAST, 5);
        wouldBe("one less", 0, LEAST, 4);
        b.range(1, LEAST, 1);
        wouldBe("than the one behind 0.0", 0, LEAST, 0);
        b.range(1, LEAST, 0);
        wouldBe("than 0.0: -0.0 is not", 0, LEAST, -2);
        b.range(1, LEAST, -1);
        wouldBe("than -0.0", 0, LEAST, -2);
        b.range(1, LEAST, -2);
        wouldBe("than the one ahead of -0.0", 0, LEAST, -3);
        b.range(1, LEAST, LEAST + 1);
        wouldBe("the least alone", 0, LEAST, LEAST);
        b.range(1, LEAST, LEAST);
        wouldBeEmpty("none is less than the least");
        b.range(0, -1, 9);
        b.range(1, LEAST, 0);
        wouldBeEmpty("-0.0 is not less than 0.0");
    }

    private static void lessY() {
        says("Then y: those greater than the NUMBER at LOW of x.");
        oneRule(LESS);
        b.range(0, 5, GREATEST);
        wouldBe("one more", 1, 6, GREATEST);
        b.range(0, 0, GREATEST);
        wouldBe("than 0.0", 1, 1, GREATEST);
        b.range(0, -1, GREATEST);
        wouldBe("than -0.0: 0.0 is not", 1, 1, GREATEST);
        b.range(0, -2, GREATEST);
        wouldBe("than the one ahead of -0.0", 1, -1, GREATEST);
        b.range(0, -3, GREATEST);
        wouldBe("than the one ahead of that", 1, -2, GREATEST);
        b.range(0, GREATEST - 1, GREATEST);
        wouldBe("the greatest alone", 1, GREATEST, GREATEST);
        b.range(0, GREATEST, GREATEST);
        wouldBeEmpty("none is greater than the greatest");
    }

    private static void sameX() {
        says("SAME: x: those no less than the NUMBER at LOW of y, no greater than that at HIGH of y.");
        oneRule(SAME);
        b.range(1, 3, 7);
        wouldBe("as y", 0, 3, 7);
        b.range(1, 0, 7);
        wouldBe("-0.0 is no less than 0.0", 0, -1, 7);
        b.range(1, -7, -1);
        wouldBe("0.0 is no greater than -0.0", 0, -7, 0);
        b.range(1, 1, 7);
        wouldBe("zeros are less than the one behind", 0, 1, 7);
        b.range(1, -7, -2);
        wouldBe("zeros are greater than the one ahead", 0, -7, -2);
        b.range(1, LEAST, LEAST);
        wouldBe("the least", 0, LEAST, LEAST);
        b.range(1, GREATEST, GREATEST);
        wouldBe("the greatest", 0, GREATEST, GREATEST);
        b.range(0, -1, -1);
        b.range(1, 0, 0);
        wouldBe("zeros of both signs", 0, -1, -1);
        b.range(1, 1, 1);
        wouldBeEmpty("y above");
        b.range(1, -2, -2);
        wouldBeEmpty("y below");
    }

    private static void sameY() {
        says("no greater than that at HIGH of y. Then y likewise by x.");
        oneRule(SAME);
        b.range(0, 3, 7);
        wouldBe("as x", 1, 3, 7);
        b.range(0, 0, 0);
        wouldBe("as 0.0", 1, -1, 0);
        b.range(0, -1, -1);
        wouldBe("as -0.0", 1, -1, 0);
        b.range(0, LEAST, 0);
        wouldBe("up to 0.0", 1, LEAST, 0);
        b.range(0, -1, GREATEST);
        wouldBe("from -0.0", 1, -1, GREATEST);
    }

    private static void turnedY() {
        says("TURNED: y: PLACES -1 less those of x.");
        oneRule(TURNED);
        b.range(0, -3, 7);
        wouldBe("y", 1, -8, 2);
        b.range(0, 0, 0);
        wouldBe("0.0", 1, -1, -1);
        b.range(0, -1, -1);
        wouldBe("-0.0", 1, 0, 0);
        b.range(0, LEAST, LEAST);
        wouldBe("the least", 1, GREATEST, GREATEST);
        b.range(0, GREATEST, GREATEST);
        wouldBe("the greatest", 1, LEAST, LEAST);
        b.range(0, 0, 0);
        b.range(1, 0, 9);
        wouldBeEmpty("0.0 is not turned to 0.0");
    }

    private static void turnedX() {
        says("TURNED: y: PLACES -1 less those of x. Then x likewise by y.");
        oneRule(TURNED);
        b.range(1, -3, 7);
        wouldBe("x", 0, -8, 2);
        b.range(1, LEAST, LEAST);
        wouldBe("the least", 0, GREATEST, GREATEST);
        b.range(1, -1, -1);
        wouldBe("-0.0", 0, 0, 0);
    }

    private static void zCountsForNothing() {
        says("(Of 3, 4, 5 z is 0 and counts for nothing.)");
        for (int kind = LESS; kind <= TURNED; kind++) {
            again();
            ranges(LEAST, GREATEST, -9, 5, -3, 4);
            b.rule(kind, 1, 2, 0);
            wouldBe("UNKNOWN 0 stays", 0, LEAST, GREATEST);
            due("cuts()", b.cuts(), 2);
            rangeIs("UNKNOWN 0 stays", 0, LEAST, GREATEST);
            due("no RULE is of it", b.range(0, 0, 0), 0);
            due("about: z", b.about(0, 3), 0);
        }
    }

    private static void roundsByNumbers() {
        says("CUTTING: RULES by numbers, all of them a ROUND, ROUND by ROUND");
        ranges(5, 9, 0, 20, 0, 30);
        b.rule(LESS, 0, 1, 0);
        b.rule(LESS, 1, 2, 0);
        due("the second RULE sees what the first cut", b.cuts(), 2);
        rangeIs("cut", 2, 7, 30);
        again();
        ranges(5, 9, 0, 20, 0, 30);
        b.rule(LESS, 1, 2, 0);
        b.rule(LESS, 0, 1, 0);
        due("a ROUND more in the other order", b.cuts(), 3);
        rangeIs("cut", 2, 7, 30);
    }

    private static void aRoundThatCutNothing() {
        says("till a ROUND cut nothing, or all is EMPTY, or 12 ROUNDS are over.");
        due("no UNKNOWNS", b.cuts(), 1);
        ranges(0, 9, 9, 20);
        due("no RULES", b.cuts(), 1);
        b.rule(LESS, 0, 1, 0);
        due("one that cuts, one that does not", b.cuts(), 1);
        b.range(1, 9, 9);
        due("HIGH alone is cut", b.cuts(), 2);
        rangeIs("cut", 0, 0, 8);
        b.range(1, 0, 20);
        due("LOW alone is cut", b.cuts(), 2);
        rangeIs("cut", 1, 1, 20);
    }

    private static void emptyEnds() {
        says("till a ROUND cut nothing, or all is EMPTY");
        ranges(0, 9, 10, 20);
        b.rule(LESS, 1, 0, 0);
        due("EMPTY at once", b.cuts(), NONE);
        again();
        ranges(0, 6);
        b.rule(LESS, 0, 0, 0);
        due("EMPTY in the fourth ROUND", b.cuts(), NONE);
        rangeIs("as it was", 0, 0, 6);
    }

    /** x times a half is x: HIGH is halved once a round until nothing gives. */
    private static void halving(int high, int rounds, int left) {
        again();
        ranges(0, high, at(0.5f), at(0.5f));
        b.rule(PRODUCT, 0, 1, 0);
        due("cuts() from " + high, b.cuts(), rounds);
        rangeIs("from " + high, 0, 0, left);
    }

    private static void twelveRounds() {
        says("or 12 ROUNDS are over.");
        halving(256, 10, 0);
        halving(512, 11, 0);
        halving(1024, 12, 0);
        halving(2048, 12, 0);
        halving(4096, 12, 1);
        halving(8192, 12, 2);
        again();
        ranges(0, 100);
        b.rule(LESS, 0, 0, 0);
        due("12 ROUNDS that all cut", b.cuts(), 12);
        rangeIs("cut twelve times", 0, 12, 88);
        due("they begin anew", b.cuts(), 12);
        rangeIs("cut twelve times more", 0, 24, 76);
    }

    private static void emptyByTheTwelfth() {
        says("or all is EMPTY, or 12 ROUNDS are over.");
        ranges(0, 24);
        b.rule(LESS, 0, 0, 0);
        due("EMPTY would come in the 13th ROUND", b.cuts(), 12);
        rangeIs("one is left", 0, 12, 12);
        b.range(0, 0, 23);
        due("EMPTY in the 12th ROUND", b.cuts(), NONE);
        rangeIs("as it was", 0, 0, 23);
        b.range(0, 0, 25);
        due("two are left", b.cuts(), 12);
        rangeIs("two are left", 0, 12, 13);
    }

    private static void asTheyWereAhead() {
        says("(RANGES of what is EMPTY are then as they were ahead of the CUTTING.)");
        ranges(0, 9, 0, 9, 7, 7, 0, 100);
        b.rule(LESS, 0, 1, 0);
        b.rule(LESS, 2, 0, 0);
        b.rule(LESS, 1, 2, 0);
        due("EMPTY in the end", b.cuts(), NONE);
        rangeIs("as it was", 0, 0, 9);
        rangeIs("as it was", 1, 0, 9);
        rangeIs("as it was", 2, 7, 7);
        rangeIs("as it was", 3, 0, 100);
        due("RULES stay", b.told(5), 3);
    }

    private static void cutsAnswers() {
        says("CUTTING is done: how many ROUNDS (the one that cut nothing, too); NONE: all is EMPTY (RANGES as they were). S.");
        ranges(0, 9, 0, 9);
        due("one", b.cuts(), 1);
        b.rule(LESS, 0, 1, 0);
        due("two", b.cuts(), 2);
        due("one again", b.cuts(), 1);
        b.rule(SAME, 0, 1, 0);
        due("EMPTY", b.cuts(), NONE);
        due("NONE is no refusal", b.told(0) + b.told(1) + b.told(2), 0);
    }

    private static void cutsLeavesAState() {
        says("NONE: all is EMPTY (RANGES as they were). S.");
        due("of nothing", b.cuts(), 1);
        due("a STATE", b.told(6), 1);
        ranges(5, 5);
        b.rule(LESS, 0, 0, 0);
        due("EMPTY", b.cuts(), NONE);
        due("a STATE, too", b.told(6), 4);
        due("back()", b.back(), 3);
        due("the RULE is there yet", b.told(5), 1);
    }

    private static void wouldAlone() {
        says("LOW (what 0), HIGH (1) that UNKNOWN u would have, were RULE k alone to CUT once, from RANGES as they are");
        ranges(0, 100, 0, 50);
        b.rule(LESS, 0, 0, 0);
        b.rule(LESS, 0, 1, 0);
        due("once", b.would(0, 0, 0), 1);
        due("once", b.would(0, 0, 1), 99);
        due("the second alone", b.would(1, 0, 1), 49);
        due("the second alone", b.would(1, 1, 0), 1);
        due("asked again the same", b.would(0, 0, 0), 1);
        rangeIs("RANGES stay", 0, 0, 100);
        due("no STATE", b.told(6), 4);
    }

    private static void wouldEmpty() {
        says("NONE: all would be EMPTY.");
        ranges(0, 0, 0, 50, 3, 3);
        b.rule(LESS, 1, 0, 0);
        for (int u = 0; u < 3; u++) {
            due("would(0, " + u + ", 0)", b.would(0, u, 0), NONE);
            due("would(0, " + u + ", 1)", b.would(0, u, 1), NONE);
        }
        due("NONE is no refusal", b.told(0) + b.told(1) + b.told(2), 0);
        rangeIs("RANGES stay", 1, 0, 50);
    }

    private static void wouldBad() {
        says("`int would(int k, int u, int what)`");
        refuses(BAD, "no UNKNOWN, no RULE", () -> b.would(0, 0, 0));
        ranges(0, 9, 0, 9);
        refuses(BAD, "no RULE", () -> b.would(0, 0, 0));
        b.rule(LESS, 0, 1, 0);
        refuses(BAD, "k -1", () -> b.would(-1, 0, 0));
        refuses(BAD, "k 1", () -> b.would(1, 0, 0));
        refuses(BAD, "u -1", () -> b.would(0, -1, 0));
        refuses(BAD, "u 2", () -> b.would(0, 2, 0));
        refuses(BAD, "what -1", () -> b.would(0, 0, -1));
        refuses(BAD, "what 2", () -> b.would(0, 0, 2));
        b.range(1, 0, 0);
        refuses(BAD, "BAD, though all would be EMPTY", () -> b.would(0, 2, 0));
        due("the last of both", b.would(0, 1, 1), NONE);
    }
}
