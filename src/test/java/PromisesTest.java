/** Each promise by hand: ordinary inputs, the edges that the document names, wrong inputs. */
public final class PromisesTest {
    private static final int LEAST = Numbers.LEAST;
    private static final int GREATEST = Numbers.GREATEST;
    private static final int INFINITY = GREATEST + 1;
    private static final int NONE = Numbers.NONE;
    private static final int BAD = Numbers.BAD;
    private static final int NO = Numbers.NO;
    private static final int FULL = Numbers.FULL;
    private static final int SUM = 0;
    private static final int PRODUCT = 1;
    private static final int MOST = 2;
    private static final int LESS = 3;
    private static final int SAME = 4;
    private static final int TURNED = 5;

    private static FloatBoxes b;
    private static int promise;

    public static void main(String[] args) {
        newObject();
        unknown();
        range();
        rule();
        drops();
        cuts();
        of();
        holding();
        about();
        would();
        wouldByProduct();
        does();
        solves();
        point();
        whole();
        narrow();
        wide();
        reckons();
        rest();
        type();
        clear();
        reads();
        back();
        told();
        digest();
        Check.finish();
    }

    private static void begin(int number) {
        promise = number;
        b = new FloatBoxes();
    }

    private static void due(String call, long got, long want) {
        Check.due("promise " + promise + ": " + call, got, want);
    }

    private static int at(float f) {
        return Numbers.place(f);
    }

    private static void unknowns(float... lowsAndHighs) {
        for (int i = 0; i < lowsAndHighs.length; i += 2) {
            b.unknown(at(lowsAndHighs[i]), at(lowsAndHighs[i + 1]));
        }
    }

    private static void rangeIs(String when, int u, int low, int high) {
        due("LOW of " + u + " " + when, b.of(u, 0), low);
        due("HIGH of " + u + " " + when, b.of(u, 1), high);
    }

    private static void wouldBe(String when, int u, int low, int high) {
        due("would(0, " + u + ", 0) " + when, b.would(0, u, 0), low);
        due("would(0, " + u + ", 1) " + when, b.would(0, u, 1), high);
    }

    private static void newObject() {
        begin(1);
        for (int what = 0; what <= 6; what++) {
            due("told(" + what + ")", b.told(what), 0);
        }
        due("of(0, 0)", b.of(0, 0), BAD);
        due("drops(0)", b.drops(0), BAD);
        due("back()", b.back(), NO);
        begin(1);
        due("cuts() of nothing", b.cuts(), 1);
        due("solves(1, 0) of nothing", b.solves(1, 0), 0);
        due("solves(1, 1) of nothing", b.solves(1, 1), 1);
        due("solves(1, 2) of nothing", b.solves(1, 2), 0);
    }

    private static void unknown() {
        begin(2);
        due("the first", b.unknown(LEAST, GREATEST), 0);
        due("one number", b.unknown(-1, -1), 1);
        rangeIs("of all", 0, LEAST, GREATEST);
        rangeIs("of one", 1, -1, -1);
        due("high below low", b.unknown(0, -1), BAD);
        due("low too low", b.unknown(LEAST - 1, 0), BAD);
        due("high too high", b.unknown(0, INFINITY), BAD);
        due("far too low", b.unknown(Integer.MIN_VALUE, Integer.MAX_VALUE), BAD);
        due("told(4)", b.told(4), 2);
        due("told(6)", b.told(6), 2);
        for (int u = 2; u < 6; u++) {
            due("unknown " + u, b.unknown(u, u), u);
        }
        due("a seventh", b.unknown(0, 0), FULL);
        due("BAD goes ahead of FULL", b.unknown(1, 0), BAD);
        due("told(0)", b.told(0), 5);
        due("told(2)", b.told(2), 1);
        due("told(6), refused ones leave none", b.told(6), 5);
    }

    private static void range() {
        begin(3);
        unknowns(0, 1, 0, 1, 0, 1, 0, 1);
        due("no rule", b.range(0, 3, 9), 0);
        rangeIs("now", 0, 3, 9);
        b.rule(SUM, 1, 1, 1);
        b.rule(SUM, 1, 2, 3);
        b.rule(LESS, 1, 2, 0);
        due("no rule is of 0, z counts for nothing", b.range(0, LEAST, GREATEST), 0);
        due("a rule counts once", b.range(1, 0, 0), 3);
        due("x and y", b.range(2, 0, 0), 2);
        due("z", b.range(3, 0, 0), 1);
        due("told(6)", b.told(6), 5);
        due("not there", b.range(4, 0, 0), BAD);
        due("below 0", b.range(-1, 0, 0), BAD);
        due("high below low", b.range(0, 1, 0), BAD);
        due("low too low", b.range(0, LEAST - 1, 0), BAD);
        due("high too high", b.range(0, 0, INFINITY), BAD);
        rangeIs("after refusals", 0, LEAST, GREATEST);
    }

    private static void rule() {
        begin(4);
        due("no unknown", b.rule(LESS, 0, 0, 0), BAD);
        unknowns(0, 1, 0, 1);
        due("z not there", b.rule(SUM, 0, 1, 2), BAD);
        due("x not there", b.rule(SUM, 2, 1, 0), BAD);
        due("y not there", b.rule(SUM, 0, -1, 0), BAD);
        due("kind 6", b.rule(6, 0, 0, 0), BAD);
        due("kind -1", b.rule(-1, 0, 0, 0), BAD);
        for (int kind = LESS; kind <= TURNED; kind++) {
            due("z not 0", b.rule(kind, 0, 1, 1), BAD);
        }
        for (int kind = SUM; kind <= TURNED; kind++) {
            due("kind " + kind, b.rule(kind, 0, 1, kind < LESS ? 1 : 0), kind);
        }
        due("a seventh", b.rule(SUM, 0, 0, 0), FULL);
        due("BAD goes ahead of FULL", b.rule(SUM, 0, 0, 2), BAD);
        due("told(5)", b.told(5), 6);
    }

    private static void drops() {
        begin(5);
        unknowns(0, 1, 0, 1);
        b.rule(SUM, 0, 1, 0);
        b.rule(MOST, 1, 0, 1);
        b.rule(LESS, 1, 1, 0);
        due("not there", b.drops(3), BAD);
        due("below 0", b.drops(-1), BAD);
        due("drops(1)", b.drops(1), 2);
        due("the one behind", b.about(1, 0), LESS);
        due("the one ahead", b.about(0, 0), SUM);
        due("drops(1) again", b.drops(1), 1);
        due("drops(0)", b.drops(0), 0);
        due("drops(0) of none", b.drops(0), BAD);
    }

    private static void cuts() {
        begin(6);
        unknowns(1, 10, 2, 5, 4, 6);
        due("no rules: a round that cuts nothing", b.cuts(), 1);
        b.rule(SUM, 0, 1, 2);
        due("a round that cuts, one that does not", b.cuts(), 2);
        rangeIs("x", 0, at(1), at(4));
        rangeIs("y", 1, at(2), at(5));
        rangeIs("z", 2, at(4), at(6));
        due("told(6)", b.told(6), 5);

        begin(6);
        b.unknown(0, 100);
        b.rule(LESS, 0, 0, 0);
        due("twelve rounds at most", b.cuts(), 12);
        rangeIs("cut from both ends each round", 0, 12, 88);
        b.range(0, 12, 13);
        due("all is empty", b.cuts(), NONE);
        rangeIs("as it was", 0, 12, 13);
        due("back to the ranges ahead of the empty cutting", b.back(), 4);
        rangeIs("as it was", 0, 12, 13);

        begin(6);
        unknowns(0, 8, 0, 8, 0, 8);
        b.rule(LESS, 1, 2, 0);
        b.rule(LESS, 0, 1, 0);
        due("later rules see what earlier ones cut", b.cuts(), 3);
        rangeIs("x", 0, 0, at(8) - 2);
        rangeIs("y", 1, 1, at(8) - 1);
        rangeIs("z", 2, 2, at(8));
    }

    private static void of() {
        begin(7);
        b.unknown(-7, 9);
        due("LOW", b.of(0, 0), -7);
        due("HIGH", b.of(0, 1), 9);
        due("what 2", b.of(0, 2), BAD);
        due("what -1", b.of(0, -1), BAD);
        due("not there", b.of(1, 0), BAD);
        due("below 0", b.of(-1, 0), BAD);
        due("a question refused counts", b.told(0), 4);
        due("a question leaves no state", b.told(6), 1);
    }

    private static void holding() {
        begin(8);
        b.unknown(LEAST, GREATEST);
        b.unknown(-1, 0);
        b.unknown(5, 5);
        due("all", b.holding(0), 4278190080L);
        due("both zeros", b.holding(1), 2);
        due("one", b.holding(2), 1);
        due("not there", b.holding(3), BAD);
        due("below 0", b.holding(-1), BAD);
    }

    private static void about() {
        begin(9);
        unknowns(0, 1, 0, 1, 0, 1);
        b.rule(PRODUCT, 2, 0, 1);
        b.rule(TURNED, 1, 2, 0);
        int[] first = {PRODUCT, 2, 0, 1}, second = {TURNED, 1, 2, 0};
        for (int what = 0; what < 4; what++) {
            due("about(0, " + what + ")", b.about(0, what), first[what]);
            due("about(1, " + what + ")", b.about(1, what), second[what]);
        }
        due("what 4", b.about(0, 4), BAD);
        due("what -1", b.about(0, -1), BAD);
        due("not there", b.about(2, 0), BAD);
        due("below 0", b.about(-1, 0), BAD);
    }

    private static void would() {
        begin(10);
        unknowns(1, 10, 2, 5, 4, 6, 0, 1);
        b.rule(SUM, 0, 1, 2);
        wouldBe("by SUM", 0, at(1), at(4));
        wouldBe("not of the rule", 3, at(0), at(1));
        rangeIs("stays", 0, at(1), at(10));
        due("what 2", b.would(0, 0, 2), BAD);
        due("no such rule", b.would(1, 0, 0), BAD);
        due("no such unknown", b.would(0, 4, 0), BAD);
        b.range(2, at(100), at(101));
        due("empty", b.would(0, 3, 0), NONE);

        begin(10);
        unknowns(0, 16777216, 1, 1, 16777216, 16777216);
        b.rule(SUM, 0, 1, 2);
        wouldBe("as far as rounding lets", 0, at(16777215), at(16777216));

        begin(10);
        b.unknown(at(Float.MAX_VALUE), GREATEST);
        b.unknown(at(1), at(1e38f));
        b.unknown(LEAST, GREATEST);
        b.rule(SUM, 0, 1, 2);
        wouldBe("infinity is no number", 2, GREATEST, GREATEST);
        wouldBe("what keeps the sum finite", 1, at(1), at(0x1p103f) - 1);

        begin(10);
        b.unknown(-1, 0);
        b.unknown(-1, 0);
        b.unknown(-1, -1);
        b.rule(SUM, 0, 1, 2);
        wouldBe("-0.0 as the sum", 0, -1, -1);
        wouldBe("-0.0 as the sum", 1, -1, -1);

        begin(10);
        unknowns(0, 8, 0, 3);
        b.rule(MOST, 0, 1, 0);
        b.range(1, at(9), at(10));
        due("MOST, z being x", b.would(0, 0, 0), NONE);

        begin(10);
        b.unknown(0, 9);
        b.unknown(0, 4);
        b.unknown(6, 8);
        b.rule(MOST, 0, 1, 2);
        wouldBe("MOST", 0, 6, 8);
        wouldBe("MOST", 1, 0, 4);

        begin(10);
        b.unknown(-5, 5);
        b.unknown(-5, 0);
        b.rule(LESS, 0, 1, 0);
        wouldBe("LESS than 0.0", 0, -5, -2);
        wouldBe("more than", 1, -4, 0);
        b.range(0, -1, 5);
        due("none is less", b.would(0, 0, 0), NONE);
        b.range(0, 0, 5);
        b.range(1, -1, 9);
        wouldBe("-0.0 is no more than 0.0", 1, 1, 9);
        b.range(0, -1, 5);
        wouldBe("-0.0 is no more than -0.0", 1, 1, 9);

        begin(10);
        b.unknown(-5, 5);
        b.unknown(0, 0);
        b.rule(SAME, 0, 1, 0);
        wouldBe("SAME as 0.0", 0, -1, 0);
        b.range(1, -1, -1);
        wouldBe("SAME as -0.0", 0, -1, 0);
        b.range(1, 2, 3);
        wouldBe("SAME", 0, 2, 3);

        begin(10);
        b.unknown(-3, 7);
        b.unknown(-5, 9);
        b.rule(TURNED, 0, 1, 0);
        wouldBe("TURNED y", 1, -5, 2);
        wouldBe("TURNED x", 0, -3, 4);
    }

    private static void wouldByProduct() {
        begin(10);
        unknowns(-3, 4, -2, 5, 6, 100);
        b.rule(PRODUCT, 0, 1, 2);
        wouldBe("z", 2, at(6), at(20));
        wouldBe("x by both parts of y", 0, at(-3), at(4));
        wouldBe("y by both parts of x", 1, at(-2), at(5));
        b.range(0, at(1), at(4));
        wouldBe("y by one part of x", 1, at(1.5f), at(5));

        begin(10);
        unknowns(2, 3, -100, 100, 6, 6);
        b.rule(PRODUCT, 0, 1, 2);
        due("a third or less", b.would(0, 1, 1), at(3));
        due("rounded", b.would(0, 1, 0), at(2));

        begin(10);
        unknowns(-2, 2, 1, 1, -0.5f, 0.5f);
        b.rule(PRODUCT, 0, 1, 2);
        wouldBe("by one", 0, at(-0.5f), at(0.5f));
        b.range(1, at(-1), at(-1));
        wouldBe("by minus one", 0, at(-0.5f), at(0.5f));
        b.range(2, at(0.25f), at(0.5f));
        wouldBe("by minus one, of one sign", 0, at(-0.5f), at(-0.25f));
        b.range(1, -1, 0);
        due("by zeros", b.would(0, 0, 0), NONE);

        begin(10);
        b.unknown(0, 10);
        b.unknown(at(0.5f), at(0.5f));
        b.unknown(1, 1);
        b.rule(PRODUCT, 0, 1, 2);
        due("halves go to the even one: 1 by a half is 0, 3 by a half is 2", b.would(0, 0, 0), 2);
        due("so that 2 alone is left", b.would(0, 0, 1), 2);
    }

    private static void does() {
        begin(11);
        due("SUM", b.does(SUM, at(1), at(2), at(3)), 1);
        due("SUM, other", b.does(SUM, at(1), at(2), at(3) + 1), 0);
        due("SUM, to the even one", b.does(SUM, at(16777216), at(1), at(16777216)), 1);
        due("SUM, to the even one above", b.does(SUM, at(16777218), at(1), at(16777220)), 1);
        due("SUM, infinite", b.does(SUM, GREATEST, GREATEST, GREATEST), 0);
        due("SUM of zeros", b.does(SUM, -1, 0, -1), 0);
        due("SUM to zero", b.does(SUM, at(-5), at(5), 0), 1);
        due("PRODUCT", b.does(PRODUCT, at(3), at(-2), at(-6)), 1);
        due("PRODUCT, bit by bit", b.does(PRODUCT, at(-3), 0, 0), 0);
        due("MOST", b.does(MOST, 5, -9, 5), 1);
        due("MOST, -0.0 ahead of 0.0", b.does(MOST, 0, -1, -1), 0);
        due("LESS", b.does(LESS, -9, 5, 0), 1);
        due("LESS, alike", b.does(LESS, 5, 5, 0), 0);
        due("LESS, zeros", b.does(LESS, -1, 0, 0), 0);
        due("LESS, z any", b.does(LESS, 0, 1, Integer.MIN_VALUE), 1);
        due("SAME", b.does(SAME, 5, 5, Integer.MAX_VALUE), 1);
        due("SAME, zeros", b.does(SAME, -1, 0, 0), 1);
        due("SAME, not", b.does(SAME, 5, 6, 0), 0);
        due("TURNED", b.does(TURNED, 0, -1, INFINITY), 1);
        due("TURNED, not", b.does(TURNED, 0, 0, 0), 0);
        due("told(0)", b.told(0), 0);
        due("kind 6", b.does(6, 0, 0, 0), BAD);
        due("kind -1", b.does(-1, 0, 0, 0), BAD);
        due("x", b.does(LESS, INFINITY, 0, 0), BAD);
        due("y", b.does(LESS, 0, LEAST - 1, 0), BAD);
        for (int kind = SUM; kind <= MOST; kind++) {
            due("z", b.does(kind, 0, 0, INFINITY), BAD);
        }
        due("told(0)", b.told(0), 7);
    }

    private static void solves() {
        begin(12);
        b.unknown(0, 3);
        due("left open", b.solves(1, 0), 2);
        due("taken", b.solves(1, 1), 1);
        due("left", b.solves(1, 2), 2);
        due("a point: the lower half comes first", b.solves(3, 0), 0);
        due("taken", b.solves(60, 1), 3);
        due("left", b.solves(60, 2), 2);
        due("ranges stay", b.holding(0), 4);
        due("no state", b.told(6), 1);
        b.rule(LESS, 0, 0, 0);
        due("none: EMPTY", b.solves(1, 0), 1);
        due("taken", b.solves(9, 1), 1);
        due("left", b.solves(9, 2), 0);
        due("n 0", b.solves(0, 0), BAD);
        due("n 61", b.solves(61, 0), BAD);
        due("what 3", b.solves(1, 3), BAD);
        due("what -1", b.solves(1, -1), BAD);

        begin(12);
        b.unknown(-3, -2);
        b.unknown(5, 5);
        b.rule(PRODUCT, 0, 1, 0);
        b.range(0, -1, 0);
        b.rule(SAME, 0, 0, 0);
        due("both zeros keep the product", b.solves(60, 0), 0);
        due("-0.0 first", b.point(60, 0), -1);

        begin(12);
        b.unknown(-1, 0);
        b.rule(TURNED, 0, 0, 0);
        due("cutting lets it be, no number is its own other", b.cuts(), 1);
        due("none", b.solves(60, 0), 1);
        due("taken", b.solves(60, 1), 3);
        due("open at two", b.solves(2, 0), 2);
        due("the row empty at the last box: none", b.solves(3, 0), 1);

        begin(12);
        b.unknown(0, 8);
        b.unknown(0, 8);
        due("the first of like ones is halved, then the other", b.solves(9, 1), 7 + 2);
        due("left open or not", b.solves(8, 0), 2);
    }

    private static void point() {
        begin(13);
        b.unknown(at(1), at(2));
        b.unknown(at(3), at(3));
        b.rule(LESS, 0, 1, 0);
        due("the least", b.point(60, 0), at(1));
        due("the other", b.point(60, 1), at(3));
        due("too few boxes", b.point(3, 0), NO);
        due("told(1)", b.told(1), 1);
        due("no such unknown", b.point(60, 2), BAD);
        due("below 0", b.point(60, -1), BAD);
        due("n 0", b.point(0, 0), BAD);
        due("n 61", b.point(61, 0), BAD);
        due("BAD goes ahead of NO", b.point(3, 2), BAD);
        b.range(1, at(1.5f), at(1.5f));
        b.range(0, at(1.25f), at(1.75f));
        due("asked again of other ranges", b.point(60, 0), at(1.25f));
        b.back();
        due("asked again after going back", b.point(60, 0), at(1));
    }

    private static void whole() {
        begin(14);
        due("0", b.whole(0), 0);
        due("1", b.whole(1), 1065353216);
        due("-1", b.whole(-1), -1065353217);
        due("half to the even one below", b.whole(16777217), at(16777216));
        due("half to the even one above", b.whole(-16777219), at(-16777220));
        due("greatest", b.whole(Integer.MAX_VALUE), at(2147483648f));
        due("least", b.whole(Integer.MIN_VALUE), at(-2147483648f));
        due("told(0)", b.told(0), 0);
    }

    private static void narrow() {
        begin(15);
        due("0.0", b.narrow(0L), 0);
        due("-0.0", b.narrow(Long.MIN_VALUE), -1);
        due("the least double", b.narrow(1L), 0);
        due("the least double below", b.narrow(Long.MIN_VALUE + 1), -1);
        due("half of the least float", b.narrow(Double.doubleToRawLongBits(0x1p-150)), 0);
        due("a bit more", b.narrow(Double.doubleToRawLongBits(0x1p-150) + 1), 1);
        due("one and a half", b.narrow(Double.doubleToRawLongBits(0x1.8p-149)), 2);
        due("0.1", b.narrow(Double.doubleToRawLongBits(0.1)), at(0.1f));
        due("the greatest", b.narrow(Double.doubleToRawLongBits(Math.nextDown(0x1.ffffffp127))), GREATEST);
        due("half to infinity", b.narrow(Double.doubleToRawLongBits(0x1.ffffffp127)), NO);
        due("infinity", b.narrow(0x7ff0000000000000L), NO);
        due("-infinity", b.narrow(0xfff0000000000000L), NO);
        due("not-a-number", b.narrow(0x7ff0000000000001L), BAD);
        due("not-a-number", b.narrow(-1L), BAD);
        due("told(0)", b.told(0), 2);
        due("told(1)", b.told(1), 3);
    }

    private static void wide() {
        begin(16);
        due("0.0", b.wide(0), 0L);
        due("-0.0", b.wide(-1), Long.MIN_VALUE);
        due("1.0", b.wide(at(1)), Double.doubleToRawLongBits(1.0));
        due("-2.5", b.wide(at(-2.5f)), Double.doubleToRawLongBits(-2.5));
        due("the least above zero", b.wide(1), Double.doubleToRawLongBits(0x1p-149));
        due("not normal", b.wide(8388607), Double.doubleToRawLongBits(Float.intBitsToFloat(8388607)));
        due("the first normal", b.wide(8388608), Double.doubleToRawLongBits(0x1p-126));
        due("greatest", b.wide(GREATEST), Double.doubleToRawLongBits(Float.MAX_VALUE));
        due("least", b.wide(LEAST), Double.doubleToRawLongBits(-Float.MAX_VALUE));
        due("told(0)", b.told(0), 0);
        due("infinity", b.wide(INFINITY), -1L);
        due("-infinity", b.wide(LEAST - 1), -1L);
        due("told(0)", b.told(0), 2);
    }

    private static void reckons() {
        begin(17);
        due("S", b.reckons(0, at(1), at(2)), at(3));
        due("M", b.reckons(1, at(3), at(-2)), at(-6));
        due("S infinite", b.reckons(0, GREATEST, GREATEST), INFINITY);
        due("S -infinite", b.reckons(0, LEAST, LEAST), LEAST - 1);
        due("M infinite", b.reckons(1, LEAST, LEAST), INFINITY);
        due("M -infinite", b.reckons(1, GREATEST, LEAST), LEAST - 1);
        due("M to -0.0", b.reckons(1, 1, -2), -1);
        due("S of -0.0", b.reckons(0, -1, -1), -1);
        due("S to 0.0", b.reckons(0, at(7), at(-7)), 0);
        due("which 2", b.reckons(2, 0, 0), BAD);
        due("which -1", b.reckons(-1, 0, 0), BAD);
        due("p", b.reckons(0, INFINITY, 0), BAD);
        due("q", b.reckons(1, 0, LEAST - 1), BAD);
    }

    private static void rest() {
        begin(18);
        due("7 by 2", b.rest(at(7), at(2)), at(1));
        due("-7 by 2", b.rest(at(-7), at(2)), at(-1));
        due("7 by -2", b.rest(at(7), at(-2)), at(1));
        due("nothing over", b.rest(at(6), at(3)), 0);
        due("nothing over, sign bit 1", b.rest(at(-6), at(3)), -1);
        due("less", b.rest(at(2), at(7)), at(2));
        due("0.0 by 5", b.rest(0, at(5)), 0);
        due("far apart", b.rest(GREATEST, at(3)), at(Float.MAX_VALUE % 3f));
        due("far apart, not normal", b.rest(GREATEST, 7), at(Float.MAX_VALUE % Float.intBitsToFloat(7)));
        due("by 0.0", b.rest(at(1), 0), NO);
        due("by -0.0", b.rest(0, -1), NO);
        due("p", b.rest(INFINITY, 0), BAD);
        due("q", b.rest(0, INFINITY), BAD);
    }

    private static void type() {
        begin(19);
        due("-1", b.type(-1), BAD);
        due("128", b.type(128), BAD);
        for (int i = 1; i <= 120; i++) {
            due("byte " + i, b.type(i % 128), i);
        }
        due("full", b.type(0), FULL);
        due("BAD goes ahead of FULL", b.type(128), BAD);
        due("told(3)", b.told(3), 120);
        due("told(6)", b.told(6), 0);
        begin(19);
        due("0", b.type(0), 1);
        due("127", b.type(127), 2);
    }

    private static void clear() {
        begin(20);
        due("empty", b.clear(), 0);
        b.type('c');
        b.type(';');
        due("two", b.clear(), 2);
        due("none now", b.told(3), 0);
        due("none now", b.clear(), 0);
        due("the first again", b.type('x'), 1);
    }

    private static void say(String text) {
        b.clear();
        for (int i = 0; i < text.length(); i++) {
            b.type(text.charAt(i));
        }
    }

    private static void reads() {
        begin(21);
        say("u 1 3;u-4 -2 ; u 0 999999999;k 0 0 1 2;k4 0 0 0;c;x 1;");
        due("orders", b.reads(), 7);
        due("one state for all", b.told(6), 1);
        due("the text stays", b.told(3), 54);
        due("unknowns", b.told(4), 3);
        due("rules", b.told(5), 1);
        rangeIs("cut", 0, at(2), at(3));
        rangeIs("cut", 1, at(-3), at(-2));
        rangeIs("cut", 2, 0, at(1));
        due("back", b.back(), 0);
        due("no unknowns", b.told(4), 0);
        say("u 0 1;k 0 0 0 1;");
        due("the order that stops all", b.reads(), -1001);
        due("nothing is done", b.told(4), 0);
        due("no state", b.told(6), 0);
        due("nothing counts", b.told(0), 0);
        say("u 1 2;x");
        due("a fault at the end", b.reads(), -17);
        say("u 1 2;x 0,");
        due("a fault", b.reads(), -19);
        due("nothing is done", b.told(4), 0);
        due("no state", b.told(6), 0);
        say("u 1 2;k 3 0 0 0;c;u 5 5;");
        due("a c that finds all empty goes on", b.reads(), 4);
        rangeIs("not empty, but cut", 0, at(1) + 12, at(2) - 12);
        b.range(0, 5, 5);
        say("c;u 7 7;");
        due("EMPTY is no refusal", b.reads(), 2);
        rangeIs("as it was", 0, 5, 5);
        due("unknowns", b.told(4), 3);
    }

    private static void back() {
        begin(22);
        due("none", b.back(), NO);
        due("told(1)", b.told(1), 1);
        b.unknown(0, 9);
        b.rule(LESS, 0, 0, 0);
        b.cuts();
        b.drops(0);
        b.range(0, 4, 4);
        due("told(6)", b.told(6), 5);
        due("range", b.back(), 4);
        rangeIs("ahead of range", 0, 0, 9);
        due("drops", b.back(), 3);
        due("told(5)", b.told(5), 1);
        due("cuts", b.back(), 2);
        due("rule", b.back(), 1);
        due("told(5)", b.told(5), 0);
        due("unknown", b.back(), 0);
        due("told(4)", b.told(4), 0);
        due("none", b.back(), NO);

        begin(22);
        for (int i = 0; i < 6; i++) {
            b.unknown(i, i);
        }
        b.range(0, 0, 0);
        for (int i = 4; i >= 0; i--) {
            due("back", b.back(), i);
        }
        due("older ones are lost", b.back(), NO);
        due("told(4)", b.told(4), 2);
        b.range(1, 7, 7);
        due("a new one", b.back(), 0);
        rangeIs("as it was", 1, 1, 1);
    }

    private static void told() {
        begin(23);
        b.unknown(0, 1);
        b.rule(SUM, 0, 0, 0);
        b.type('c');
        b.rest(0, 0);
        b.of(9, 9);
        b.of(9, 9);
        for (int i = 0; i < 5; i++) {
            b.unknown(0, 1);
        }
        b.unknown(0, 1);
        b.unknown(0, 1);
        b.unknown(0, 1);
        int[] want = {2, 1, 3, 1, 6, 1, 5};
        for (int what = 0; what <= 6; what++) {
            due("told(" + what + ")", b.told(what), want[what]);
        }
        due("told(7)", b.told(7), BAD);
        due("told(-1)", b.told(-1), BAD);
        due("told(0)", b.told(0), 4);
    }

    private static long hash(long... values) {
        long h = 2377;
        for (long v : values) {
            h = 31 * h + v;
        }
        return h;
    }

    private static void digest() {
        begin(24);
        due("new", b.digest(), hash(0, 0, 0, 0, 0, 0, 0, 1));
        b.unknown(-5, 6);
        b.unknown(7, 8);
        b.type(' ');
        b.back();
        b.back();
        b.back();
        b.unknown(-5, 6);
        b.unknown(7, 8);
        due("unknowns", b.digest(), hash(0, 1, 0, 1, 2, 0, 2, -5, 6, 7, 8, 1));
        b.rule(LESS, 0, 1, 0);
        due("a rule that holds", b.digest(), hash(0, 1, 0, 1, 2, 1, 3, -5, 6, 7, 8, 3, 0, 1, 0, 1));
        b.rule(MOST, 1, 0, 1);
        b.rule(LESS, 1, 0, 0);
        due("one that does not", b.digest(),
                hash(0, 1, 0, 1, 2, 3, 5, -5, 6, 7, 8, 3, 0, 1, 0, 2, 1, 0, 1, 3, 1, 0, 0, 0));
        due("asking changes nothing", b.told(6), 5);
    }
}
