/** Boundary cases of HOLDING and SOLVING, promises 8, 12 and 13. */
public final class SolveEdgesTest extends Edges {
    public static void main(String[] args) {
        holdingHighLessLow();
        oneToSixtyBoxes();
        firstThoseAsTheyAre();
        lastOfTheRow();
        cutAsCutting();
        emptyIsGone();
        pointEnds();
        rulesDoNotHold();
        mostIsHalved();
        likeOnesTheLeast();
        cutDown();
        cutDownAtEnds();
        twoBoxesCome();
        rowIsEmpty();
        boxesWereTaken();
        longestRow();
        verdicts();
        noUnknowns();
        rangesStay();
        solvesBad();
        pointOfTheBox();
        pointBad();
        pointNo();
        askedAgain();
        holdingBad();
        Check.finish();
    }

    private static void solvesTo(String when, int n, int verdict, int taken, int left) {
        due("solves(" + n + ", 0) " + when, b.solves(n, 0), verdict);
        due("solves(" + n + ", 1) " + when, b.solves(n, 1), taken);
        due("solves(" + n + ", 2) " + when, b.solves(n, 2), left);
    }

    private static void holdingHighLessLow() {
        says("HOLDING of a RANGE: HIGH less LOW and 1.");
        ranges(LEAST, GREATEST, -1, 0, 7, 7, LEAST, LEAST, LEAST, 7, -8, GREATEST);
        due("all", b.holding(0), 4278190080L);
        due("both zeros", b.holding(1), 2);
        due("one", b.holding(2), 1);
        due("the least", b.holding(3), 1);
        due("from the least", b.holding(4), 2139095048L);
        due("to the greatest", b.holding(5), 2139095048L);
    }

    private static void oneToSixtyBoxes() {
        says("SOLVING by n BOXES (1 .. 60)");
        ranges(0, 9);
        refuses(BAD, "0", () -> b.solves(0, 0));
        due("1", b.solves(1, 1), 1);
        due("60", b.solves(60, 0), 0);
        refuses(BAD, "61", () -> b.solves(61, 0));
        refuses(BAD, "-1", () -> b.solves(-1, 0));
        refuses(BAD, "the greatest int", () -> b.solves(Integer.MAX_VALUE, 0));
        refuses(BAD, "the least int", () -> b.solves(Integer.MIN_VALUE, 0));
    }

    private static void firstThoseAsTheyAre() {
        says("A row of BOXES, at first those as they are.");
        ranges(5, 5, 7, 7);
        solvesTo("of one place each", 1, 0, 1, 0);
        due("its place", b.point(1, 0), 5);
        due("its place", b.point(1, 1), 7);
        b.range(0, 5, 6);
        solvesTo("as they are now", 1, 2, 1, 2);
    }

    private static void lastOfTheRow() {
        says("The last BOX of the row is taken from it and CUT (as CUTTING)");
        ranges(0, 3);
        solvesTo("of 0 to 3", 1, 2, 1, 2);
        solvesTo("of 0 to 3, then 0 to 1", 2, 2, 2, 3);
        solvesTo("of 0 to 3, 0 to 1, then 0", 3, 0, 3, 2);
        due("the place", b.point(3, 0), 0);
    }

    private static void cutAsCutting() {
        says("taken from it and CUT (as CUTTING); one that is EMPTY is gone.");
        ranges(0, 2048, at(0.5f), at(0.5f));
        b.rule(PRODUCT, 0, 1, 0);
        solvesTo("cut to one place by 12 ROUNDS", 1, 0, 1, 0);
        b.range(0, 0, 4096);
        solvesTo("0 and 1 are left by 12 ROUNDS", 1, 2, 1, 2);
        solvesTo("the BOX of 0 next", 2, 0, 2, 1);
        due("its place", b.point(2, 0), 0);
    }

    private static void emptyIsGone() {
        says("one that is EMPTY is gone.");
        ranges(5, 5);
        b.rule(LESS, 0, 0, 0);
        solvesTo("EMPTY at once", 1, 1, 1, 0);
        solvesTo("EMPTY at once", 60, 1, 1, 0);
        again();
        ranges(-1, 0);
        b.rule(TURNED, 0, 0, 0);
        solvesTo("halved", 1, 2, 1, 2);
        solvesTo("the first half is gone", 2, 2, 2, 1);
        solvesTo("the second one, too", 3, 1, 3, 0);
    }

    private static void pointEnds() {
        says("If each RANGE of it HOLDS one, and all RULES HOLD of these NUMBERS, that is the POINT; it ends");
        ranges(at(1), at(2), at(3), at(3), at(4), at(5));
        b.rule(SUM, 0, 1, 2);
        // x HOLDS 2^23 and 1, which 24 halvings bring down to one; z is cut along with it
        solvesTo("it ends ahead of 60", 60, 0, 25, 24);
        due("x", b.point(60, 0), at(1));
        due("y", b.point(60, 1), at(3));
        due("z", b.point(60, 2), at(4));
        solvesTo("by as many as it needs", 25, 0, 25, 24);
        solvesTo("by one less", 24, 2, 24, 25);
    }

    private static void rulesDoNotHold() {
        says("if they do not, it is gone.");
        ranges(0, 24);
        b.rule(LESS, 0, 0, 0);
        // 12 ROUNDS leave 12 alone, which is not less than itself
        solvesTo("one place that keeps no RULE", 1, 1, 1, 0);
        solvesTo("one place that keeps no RULE", 60, 1, 1, 0);
        refuses(NO, "no POINT", () -> b.point(60, 0));
        b.range(0, 0, 25);
        solvesTo("two places are halved", 1, 2, 1, 2);
        solvesTo("each is EMPTY", 60, 1, 3, 0);
    }

    private static void mostIsHalved() {
        says("Else the UNKNOWN that HOLDS most (of like ones the least) is halved");
        ranges(0, 1, -2, 1);
        b.rule(TURNED, 1, 1, 0);
        // each half of -2 to 1 is EMPTY; were 0 to 1 halved first, 7 BOXES would be taken
        solvesTo("1 HOLDS most", 60, 1, 3, 0);
        again();
        ranges(-2, 1, 0, 1);
        b.rule(TURNED, 0, 0, 0);
        solvesTo("0 HOLDS most", 60, 1, 3, 0);
        again();
        ranges(0, 2, -1, 0);
        b.rule(TURNED, 1, 1, 0);
        // 3 places of 0 are halved to 0 to 1 and 2; then 0 to 1 as the least of like ones; then -1 to 0
        solvesTo("0 HOLDS one more", 60, 1, 11, 0);
    }

    private static void likeOnesTheLeast() {
        says("of like ones the least");
        ranges(0, 1, -1, 0);
        b.rule(TURNED, 1, 1, 0);
        solvesTo("0 ahead of 1, in vain", 60, 1, 7, 0);
        again();
        ranges(-1, 0, 0, 1);
        b.rule(TURNED, 0, 0, 0);
        solvesTo("0 ahead of 1", 60, 1, 3, 0);
        again();
        ranges(7, 7, 0, 1, -1, 0);
        b.rule(TURNED, 2, 2, 0);
        solvesTo("1 ahead of 2, in vain", 60, 1, 7, 0);
    }

    private static void cutDown() {
        says("m being (LOW and HIGH) by 2, cut down (to the lesser one)");
        ranges(-2, -1);
        solvesTo("-2 to -1", 60, 0, 2, 1);
        due("the lesser one", b.point(60, 0), -2);
        b.range(0, -1, 0);
        solvesTo("-1 to 0", 60, 0, 2, 1);
        due("the lesser one", b.point(60, 0), -1);
        b.range(0, -4, -1);
        solvesTo("-4 to -1", 60, 0, 3, 2);
        due("the least one", b.point(60, 0), -4);
        b.range(0, 1, 3);
        // 1 to 2 and 3, then 1 and 2
        solvesTo("1 to 3", 60, 0, 3, 2);
        b.range(0, 1, 2);
        solvesTo("1 to 2", 60, 0, 2, 1);
        b.range(0, -5, -3);
        // -4 is the middle: -5 to -4 and -3
        solvesTo("-5 to -3", 60, 0, 3, 2);
    }

    private static void cutDownAtEnds() {
        says("m being (LOW and HIGH) by 2");
        ranges(GREATEST - 1, GREATEST);
        solvesTo("at the greatest", 60, 0, 2, 1);
        due("the place", b.point(60, 0), GREATEST - 1);
        b.range(0, LEAST, LEAST + 1);
        solvesTo("at the least", 60, 0, 2, 1);
        due("the place", b.point(60, 0), LEAST);
        b.range(0, LEAST, GREATEST);
        solvesTo("of all", 32, 2, 32, 33);
        solvesTo("of all", 33, 0, 33, 32);
        due("the place", b.point(33, 0), LEAST);
        b.range(0, GREATEST - 3, GREATEST);
        solvesTo("four of the greatest", 60, 0, 3, 2);
    }

    private static void twoBoxesCome() {
        says("a BOX from m and 1 to HIGH, then one from LOW to m come to the row.");
        ranges(0, 3, 2, 2);
        b.rule(MOST, 0, 0, 0);
        due("the lesser half is taken first", b.point(60, 0), 0);
        again();
        // of -1, 0 no NUMBER is its own other: the lesser half, then the greater one, no more
        ranges(-1, 0);
        b.rule(TURNED, 0, 0, 0);
        solvesTo("both halves and no place twice", 60, 1, 3, 0);
        again();
        // -0.0 times -0.0 is 0.0: the lesser half is EMPTY, the greater one the POINT
        ranges(-1, 0);
        b.rule(PRODUCT, 0, 0, 0);
        solvesTo("the greater half last", 60, 0, 3, 0);
        due("0.0", b.point(60, 0), 0);
    }

    private static void rowIsEmpty() {
        says("It ends, too, if the row is empty");
        ranges(-1, 0);
        b.rule(TURNED, 0, 0, 0);
        solvesTo("at the last BOX", 3, 1, 3, 0);
        solvesTo("ahead of the last BOX", 4, 1, 3, 0);
        solvesTo("far ahead of it", 60, 1, 3, 0);
    }

    private static void boxesWereTaken() {
        says("or n BOXES were taken.");
        ranges(0, 7);
        solvesTo("", 1, 2, 1, 2);
        solvesTo("", 2, 2, 2, 3);
        solvesTo("", 3, 2, 3, 4);
        solvesTo("the POINT is the last of them", 4, 0, 4, 3);
        solvesTo("one more changes nothing", 5, 0, 4, 3);
    }

    private static void longestRow() {
        says("SOLVING by n BOXES (1 .. 60)");
        ranges(LEAST, GREATEST, LEAST, GREATEST);
        solvesTo("each BOX leaves one more", 60, 2, 60, 61);
        solvesTo("one less", 59, 2, 59, 60);
        again();
        ranges(LEAST, GREATEST, LEAST, GREATEST, LEAST, GREATEST, LEAST, GREATEST, LEAST, GREATEST, LEAST, GREATEST);
        for (int k = 0; k < 6; k++) {
            due("rule " + k, b.rule(MOST, k, k, k), k);
        }
        solvesTo("six UNKNOWNS, six RULES", 60, 2, 60, 61);
        refuses(NO, "no POINT", () -> b.point(60, 5));
    }

    private static void verdicts() {
        says("VERDICT: 0 a POINT; 1 none (the row is empty); 2 it is left open.");
        ranges(-1, 0);
        due("a POINT", b.solves(2, 0), 0);
        due("left open", b.solves(1, 0), 2);
        b.rule(TURNED, 0, 0, 0);
        due("none", b.solves(3, 0), 1);
        due("left open, though there is none", b.solves(2, 0), 2);
        b.range(0, 4, 4);
        due("none at once", b.solves(1, 0), 1);
    }

    private static void noUnknowns() {
        says("If each RANGE of it HOLDS one, and all RULES HOLD of these NUMBERS, that is the POINT");
        solvesTo("no UNKNOWN holds more than one", 1, 0, 1, 0);
        solvesTo("no UNKNOWN holds more than one", 60, 0, 1, 0);
        refuses(BAD, "no UNKNOWN has a place", () -> b.point(1, 0));
    }

    private static void rangesStay() {
        says("SOLVING by n BOXES (RANGES stay): VERDICT (what 0), how many were taken (1), how many are left in the row (2).");
        ranges(0, 100, 0, 50);
        b.rule(LESS, 1, 0, 0);
        long before = b.digest();
        solvesTo("a POINT", 60, 0, 8, 7);
        due("a place", b.point(60, 0), 1);
        rangeIs("not cut", 0, 0, 100);
        rangeIs("not cut", 1, 0, 50);
        due("no STATE, nothing else", b.digest(), before);
    }

    private static void solvesBad() {
        says("`int solves(int n, int what)`");
        ranges(0, 1);
        refuses(BAD, "what -1", () -> b.solves(1, -1));
        refuses(BAD, "what 3", () -> b.solves(1, 3));
        refuses(BAD, "n 0", () -> b.solves(0, 2));
        refuses(BAD, "n 61", () -> b.solves(61, 2));
        due("what 2", b.solves(1, 2), 2);
    }

    private static void pointOfTheBox() {
        says("Of the POINT that SOLVING by n BOXES comes to: the PLACE of an UNKNOWN.");
        ranges(-1, 0, LEAST, LEAST, GREATEST, GREATEST, 3, 3, 4, 4, 5, 5);
        int[] want = {-1, LEAST, GREATEST, 3, 4, 5};
        for (int u = 0; u < 6; u++) {
            due("point(2, " + u + ")", b.point(2, u), want[u]);
        }
    }

    private static void pointBad() {
        says("the PLACE of an UNKNOWN. BAD; NO: there is none.");
        refuses(BAD, "no UNKNOWN", () -> b.point(1, 0));
        ranges(0, 3);
        refuses(BAD, "u -1", () -> b.point(60, -1));
        refuses(BAD, "u 1", () -> b.point(60, 1));
        refuses(BAD, "n 0", () -> b.point(0, 0));
        refuses(BAD, "n 61", () -> b.point(61, 0));
        refuses(BAD, "BAD goes ahead of NO", () -> b.point(1, 1));
        due("n 60", b.point(60, 0), 0);
    }

    private static void pointNo() {
        says("NO: there is none.");
        ranges(0, 3);
        refuses(NO, "left open", () -> b.point(2, 0));
        due("by one more", b.point(3, 0), 0);
        b.rule(LESS, 0, 0, 0);
        refuses(NO, "there is none", () -> b.point(60, 0));
    }

    /** What was solved must not be told of what has changed since. */
    private static void askedAgain() {
        says("SOLVING by n BOXES (RANGES stay)");
        ranges(4, 5);
        due("4", b.point(60, 0), 4);
        b.range(0, 6, 7);
        due("by range", b.point(60, 0), 6);
        b.rule(LESS, 0, 0, 0);
        due("by rule", b.solves(60, 0), 1);
        b.drops(0);
        due("by drops", b.solves(60, 0), 0);
        b.unknown(LEAST, GREATEST);
        due("by unknown", b.solves(60, 1), 34);
        b.back();
        due("by back", b.solves(60, 1), 2);
        text("u 1 2;");
        b.reads();
        // 1 halving of 6 to 7, 24 halvings of 2^23 and 1
        due("by reads", b.solves(60, 1), 26);
        b.rule(LESS, 1, 1, 0);
        due("ahead of cuts", b.solves(1, 2), 2);
        b.range(1, 0, 36);
        due("ahead of cuts", b.solves(60, 1), 3);
        b.cuts();
        due("by cuts", b.solves(60, 1), 1);
    }

    private static void holdingBad() {
        says("`long holding(int u)`");
        refuses(BAD, "no UNKNOWN", () -> b.holding(0));
        ranges(0, 3, 0, 3, 0, 3, 0, 3, 0, 3, 0, 3);
        refuses(BAD, "u -1", () -> b.holding(-1));
        refuses(BAD, "u 6", () -> b.holding(6));
        due("u 5", b.holding(5), 4);
    }
}
