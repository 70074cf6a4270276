/** Boundary cases of unknowns, rules, states and refusals: promises 1 to 5, 7, 9 and 22 to 24. */
public final class CallEdgesTest extends Edges {
    public static void main(String[] args) {
        newObject();
        calls512();
        unknownsAsTheyCome();
        rulesAsTheyCome();
        alikeUnknowns();
        unknownBad();
        unknownFull();
        rangeBecomes();
        rangeCountsRules();
        rangeBad();
        ruleNumber();
        ruleBadUnknowns();
        ruleBadZ();
        ruleFull();
        dropsNearer();
        dropsBad();
        ofEnds();
        ofBad();
        aboutEach();
        aboutBad();
        statesOfEachCall();
        statesThoughNothingChanges();
        statesOfRefused();
        statesOfQuestions();
        statesHaveRangesAndRules();
        statesHaveAllOfARule();
        statesFiveAtMost();
        statesOlderOnesLost();
        refusedQuestions();
        refusedChangesNothing();
        refusedTheFirstOf();
        refusalsAreNumbers();
        backHowMany();
        backNo();
        backThenOther();
        toldEach();
        toldBad();
        digestOfNothing();
        digestOfAll();
        digestOfLows();
        Check.finish();
    }

    private static void newObject() {
        says("As told; no UNKNOWNS, no RULES.");
        for (int what = 0; what <= 6; what++) {
            due("told(" + what + ")", b.told(what), 0);
        }
        refuses(BAD, "no UNKNOWN", () -> b.of(0, 0));
        refuses(BAD, "no RULE", () -> b.about(0, 0));
        refuses(NO, "no STATE", () -> b.back());
        due("no bytes", b.clear(), 0);
        FloatBoxes other = b;
        again();
        other.unknown(3, 4);
        other.type('c');
        due("of its own", b.told(4) + b.told(3) + b.told(6), 0);
    }

    private static void calls512() {
        says("An object is used for at most 512 calls after it has been made");
        ranges(0, 9);
        for (int i = 0; i < 127; i++) {
            due("cuts()", b.cuts(), 1);
            due("of(1, 0)", b.of(1, 0), BAD);
            due("type(32)", b.type(32), i < 120 ? i + 1 : FULL);
            due("rest(0, 0)", b.rest(0, 0), NO);
        }
        due("told(0)", b.told(0), 127);
        due("told(1)", b.told(1), 127);
        due("the 512th call", b.told(2), 7);
    }

    private static void unknownsAsTheyCome() {
        says("UNKNOWNS 0 .. 5, as they come, each with a RANGE: LOW to HIGH (PLACES).");
        for (int u = 0; u < 6; u++) {
            due("its number", b.unknown(-u, u * u), u);
        }
        for (int u = 0; u < 6; u++) {
            rangeIs("each its own", u, -u, u * u);
        }
        due("UNKNOWNS", b.told(4), 6);
    }

    private static void rulesAsTheyCome() {
        says("RULES 0 .. 5, as they come, of KINDS, of UNKNOWNS x, y, z (perhaps alike)");
        ranges(0, 1, 0, 1, 0, 1);
        for (int k = 0; k < 6; k++) {
            due("its number", b.rule(5 - k, 2, 1, k < 3 ? 0 : 2), k);
        }
        for (int k = 0; k < 6; k++) {
            due("KIND of " + k, b.about(k, 0), 5 - k);
        }
        due("RULES", b.told(5), 6);
    }

    private static void alikeUnknowns() {
        says("of UNKNOWNS x, y, z (perhaps alike)");
        ranges(0, 9);
        for (int kind = SUM; kind <= TURNED; kind++) {
            due("KIND " + kind, b.rule(kind, 0, 0, 0), kind);
        }
        due("each is of it once", b.range(0, 0, 0), 6);
        due("0.0 and 0.0 is 0.0", b.would(0, 0, 0), 0);
        due("0.0 by 0.0 is 0.0", b.would(1, 0, 0), 0);
        due("the greater of it", b.would(2, 0, 0), 0);
        due("not less than itself", b.would(3, 0, 0), NONE);
        due("as much as itself", b.would(4, 0, 0), 0);
        due("not its own other", b.would(5, 0, 0), NONE);
    }

    private static void unknownBad() {
        says("An UNKNOWN with RANGE low to high (PLACES): its number. S. BAD: high below low, too; FULL: 6.");
        refuses(BAD, "high below low", () -> b.unknown(0, -1));
        refuses(BAD, "high below low", () -> b.unknown(GREATEST, LEAST));
        refuses(BAD, "low too little", () -> b.unknown(MINUS_INFINITY, 0));
        refuses(BAD, "high too great", () -> b.unknown(0, INFINITY));
        refuses(BAD, "both too little", () -> b.unknown(MINUS_INFINITY, MINUS_INFINITY));
        refuses(BAD, "both too great", () -> b.unknown(INFINITY, INFINITY));
        refuses(BAD, "the ends of ints", () -> b.unknown(Integer.MIN_VALUE, Integer.MAX_VALUE));
        refuses(BAD, "low alone too great", () -> b.unknown(INFINITY, 0));
        refuses(BAD, "high alone too little", () -> b.unknown(0, MINUS_INFINITY));
        due("low as high", b.unknown(4, 4), 0);
        due("the least", b.unknown(LEAST, LEAST), 1);
        due("the greatest", b.unknown(GREATEST, GREATEST), 2);
        due("all", b.unknown(LEAST, GREATEST), 3);
        due("-0.0 to 0.0", b.unknown(-1, 0), 4);
    }

    private static void unknownFull() {
        says("BAD: high below low, too; FULL: 6.");
        ranges(0, 0, 1, 1, 2, 2, 3, 3, 4, 4);
        due("the sixth", b.unknown(5, 5), 5);
        refuses(FULL, "the seventh", () -> b.unknown(6, 6));
        refuses(BAD, "BAD goes ahead of FULL", () -> b.unknown(6, 5));
        b.back();
        due("room again", b.unknown(7, 7), 5);
        rangeIs("of the sixth", 5, 7, 7);
    }

    private static void rangeBecomes() {
        says("RANGE of an UNKNOWN becomes low to high");
        ranges(4, 6, 4, 6);
        due("wider", b.range(1, LEAST, GREATEST), 0);
        rangeIs("wider than it was", 1, LEAST, GREATEST);
        rangeIs("the other stays", 0, 4, 6);
        due("one", b.range(1, -1, -1), 0);
        rangeIs("one", 1, -1, -1);
        due("elsewhere", b.range(0, GREATEST, GREATEST), 0);
        rangeIs("elsewhere", 0, GREATEST, GREATEST);
    }

    private static void rangeCountsRules() {
        says("how many RULES are of it. S. BAD, likewise.");
        ranges(0, 1, 0, 1, 0, 1, 0, 1);
        b.rule(SUM, 1, 2, 3);
        b.rule(PRODUCT, 1, 1, 1);
        b.rule(MOST, 2, 3, 0);
        b.rule(LESS, 1, 3, 0);
        b.rule(SAME, 3, 1, 0);
        b.rule(TURNED, 2, 2, 0);
        due("as z of MOST alone: z 0 of others counts for nothing", b.range(0, 0, 0), 1);
        due("as x, y, z", b.range(1, 0, 0), 4);
        due("as x or y", b.range(2, 0, 0), 3);
        due("as y, z, x", b.range(3, 0, 0), 4);
        b.drops(2);
        due("of none", b.range(0, 0, 0), 0);
    }

    private static void rangeBad() {
        says("how many RULES are of it. S. BAD, likewise.");
        refuses(BAD, "no UNKNOWN", () -> b.range(0, 0, 0));
        ranges(0, 1, 0, 1);
        refuses(BAD, "u -1", () -> b.range(-1, 0, 0));
        refuses(BAD, "u 2", () -> b.range(2, 0, 0));
        refuses(BAD, "high below low", () -> b.range(1, 1, 0));
        refuses(BAD, "low too little", () -> b.range(1, MINUS_INFINITY, 0));
        refuses(BAD, "high too great", () -> b.range(1, 0, INFINITY));
        refuses(BAD, "low too great", () -> b.range(1, INFINITY, INFINITY));
        refuses(BAD, "high too little", () -> b.range(1, MINUS_INFINITY, MINUS_INFINITY));
        again();
        ranges(0, 0, 0, 0, 0, 0, 0, 0, 0, 0, 0, 0);
        due("the last of six", b.range(5, 1, 1), 0);
        refuses(BAD, "u 6", () -> b.range(6, 0, 0));
    }

    private static void ruleNumber() {
        says("A RULE: its number. S.");
        ranges(0, 1);
        due("0", b.rule(SUM, 0, 0, 0), 0);
        due("the same once more", b.rule(SUM, 0, 0, 0), 1);
        b.drops(0);
        due("one nearer", b.rule(LESS, 0, 0, 0), 1);
        due("STATES", b.told(6), 5);
    }

    private static void ruleBadUnknowns() {
        says("BAD: an UNKNOWN that is not there, z not 0 of KINDS 3, 4, 5, too; FULL: 6.");
        refuses(BAD, "no UNKNOWN at all", () -> b.rule(LESS, 0, 0, 0));
        ranges(0, 1, 0, 1);
        refuses(BAD, "KIND -1", () -> b.rule(-1, 0, 0, 0));
        refuses(BAD, "KIND 6", () -> b.rule(6, 0, 0, 0));
        for (int kind = SUM; kind <= TURNED; kind++) {
            int k = kind;
            refuses(BAD, "x -1 of " + k, () -> b.rule(k, -1, 0, 0));
            refuses(BAD, "x 2 of " + k, () -> b.rule(k, 2, 0, 0));
            refuses(BAD, "y -1 of " + k, () -> b.rule(k, 0, -1, 0));
            refuses(BAD, "y 2 of " + k, () -> b.rule(k, 0, 2, 0));
        }
        for (int kind = SUM; kind <= MOST; kind++) {
            int k = kind;
            refuses(BAD, "z -1 of " + k, () -> b.rule(k, 0, 0, -1));
            refuses(BAD, "z 2 of " + k, () -> b.rule(k, 0, 0, 2));
        }
        due("z 1 is there", b.rule(MOST, 1, 1, 1), 0);
    }

    private static void ruleBadZ() {
        says("z not 0 of KINDS 3, 4, 5, too");
        ranges(0, 1, 0, 1);
        for (int kind = LESS; kind <= TURNED; kind++) {
            int k = kind;
            refuses(BAD, "z 1 of " + k, () -> b.rule(k, 0, 1, 1));
            refuses(BAD, "z -1 of " + k, () -> b.rule(k, 0, 1, -1));
            due("z 0 of " + k, b.rule(k, 0, 1, 0), k - LESS);
        }
    }

    private static void ruleFull() {
        says("too; FULL: 6.");
        ranges(0, 1);
        for (int k = 0; k < 6; k++) {
            due("rule " + k, b.rule(SAME, 0, 0, 0), k);
        }
        refuses(FULL, "the seventh", () -> b.rule(SAME, 0, 0, 0));
        refuses(BAD, "BAD goes ahead of FULL", () -> b.rule(SAME, 0, 1, 0));
        refuses(BAD, "BAD goes ahead of FULL", () -> b.rule(SAME, 0, 0, 1));
        b.drops(5);
        due("room again", b.rule(SAME, 0, 0, 0), 5);
    }

    private static void dropsNearer() {
        says("A RULE goes (those behind it are one nearer): how many are left. S.");
        ranges(0, 1, 0, 1);
        for (int kind = SUM; kind <= TURNED; kind++) {
            b.rule(kind, kind % 2, 1, kind < LESS ? 1 : 0);
        }
        due("the last", b.drops(5), 5);
        due("the first", b.drops(0), 4);
        int[] left = {PRODUCT, MOST, LESS, SAME};
        for (int k = 0; k < 4; k++) {
            due("KIND of " + k, b.about(k, 0), left[k]);
            due("x of " + k, b.about(k, 1), left[k] % 2);
            due("y of " + k, b.about(k, 2), 1);
            due("z of " + k, b.about(k, 3), left[k] < LESS ? 1 : 0);
        }
        due("one between", b.drops(1), 3);
        due("KIND of 1", b.about(1, 0), LESS);
        due("KIND of 2", b.about(2, 0), SAME);
        due("two left", b.drops(2), 2);
        due("one left", b.drops(0), 1);
        due("none left", b.drops(0), 0);
        due("UNKNOWNS stay", b.told(4), 2);
    }

    private static void dropsBad() {
        says("`int drops(int k)`");
        refuses(BAD, "no RULE", () -> b.drops(0));
        ranges(0, 1);
        b.rule(SAME, 0, 0, 0);
        b.rule(LESS, 0, 0, 0);
        refuses(BAD, "k -1", () -> b.drops(-1));
        refuses(BAD, "k 2", () -> b.drops(2));
        b.drops(1);
        refuses(BAD, "k 1 is gone", () -> b.drops(1));
        b.drops(0);
        refuses(BAD, "none is left", () -> b.drops(0));
    }

    private static void ofEnds() {
        says("LOW (what 0), HIGH (1) of an UNKNOWN.");
        ranges(LEAST, GREATEST, -1, 0);
        rangeIs("the ends", 0, LEAST, GREATEST);
        rangeIs("zeros", 1, -1, 0);
    }

    private static void ofBad() {
        says("`int of(int u, int what)`");
        refuses(BAD, "no UNKNOWN", () -> b.of(0, 0));
        ranges(0, 1, 0, 1);
        refuses(BAD, "u -1", () -> b.of(-1, 0));
        refuses(BAD, "u 2", () -> b.of(2, 0));
        refuses(BAD, "what -1", () -> b.of(0, -1));
        refuses(BAD, "what 2", () -> b.of(0, 2));
        refuses(BAD, "both", () -> b.of(Integer.MAX_VALUE, Integer.MIN_VALUE));
    }

    private static void aboutEach() {
        says("Of a RULE: KIND (what 0), x (1), y (2), z (3).");
        ranges(0, 1, 0, 1, 0, 1, 0, 1);
        b.rule(PRODUCT, 3, 2, 1);
        int[] want = {PRODUCT, 3, 2, 1};
        for (int what = 0; what < 4; what++) {
            due("about(0, " + what + ")", b.about(0, what), want[what]);
        }
    }

    private static void aboutBad() {
        says("`int about(int k, int what)`");
        ranges(0, 1);
        refuses(BAD, "no RULE", () -> b.about(0, 0));
        b.rule(SAME, 0, 0, 0);
        refuses(BAD, "k -1", () -> b.about(-1, 0));
        refuses(BAD, "k 1", () -> b.about(1, 0));
        refuses(BAD, "what -1", () -> b.about(0, -1));
        refuses(BAD, "what 4", () -> b.about(0, 4));
    }

    private static void statesOfEachCall() {
        says("STATES: each call told S, if it is not refused, leaves one");
        b.unknown(0, 9);
        due("by unknown", b.told(6), 1);
        b.range(0, 0, 8);
        due("by range", b.told(6), 2);
        b.rule(SAME, 0, 0, 0);
        due("by rule", b.told(6), 3);
        b.drops(0);
        due("by drops", b.told(6), 4);
        b.cuts();
        due("by cuts", b.told(6), 5);
        again();
        text("c;");
        due("not by type, not by clear", b.told(6), 0);
        b.reads();
        due("by reads", b.told(6), 1);
        b.back();
        due("back takes one", b.told(6), 0);
    }

    private static void statesThoughNothingChanges() {
        says("leaves one, also if nothing changes by it, to go back to (RANGES, RULES)");
        due("cuts() of nothing", b.cuts(), 1);
        due("a STATE", b.told(6), 1);
        ranges(0, 9);
        due("the RANGE that it has", b.range(0, 0, 9), 0);
        due("a STATE", b.told(6), 3);
        text("c;");
        due("reads() that cuts nothing", b.reads(), 1);
        due("a STATE", b.told(6), 4);
        due("back()", b.back(), 3);
        rangeIs("as it was", 0, 0, 9);
    }

    private static void statesOfRefused() {
        says("each call told S, if it is not refused, leaves one");
        b.unknown(1, 0);
        b.range(0, 0, 0);
        b.rule(SUM, 0, 0, 0);
        b.drops(0);
        due("none by BAD ones", b.told(6), 0);
        ranges(0, 0, 0, 0, 0, 0);
        due("three", b.told(6), 3);
        ranges3More();
        due("five", b.told(6), 5);
        b.back();
        b.back();
        b.unknown(7, 7);
        b.unknown(8, 8);
        due("FULL", b.unknown(9, 9), FULL);
        due("back to ahead of the last that was done", b.back(), 4);
        due("UNKNOWNS", b.told(4), 5);
    }

    private static void ranges3More() {
        for (int u = 3; u < 6; u++) {
            due("unknown " + u, b.unknown(0, 0), u);
        }
    }

    private static void statesOfQuestions() {
        says("each call told S");
        ranges(0, 9, 0, 9);
        b.rule(LESS, 0, 1, 0);
        b.of(0, 0);
        b.holding(0);
        b.about(0, 0);
        b.would(0, 0, 0);
        b.does(LESS, 0, 1, 0);
        b.solves(60, 0);
        b.point(60, 0);
        b.whole(3);
        b.narrow(0L);
        b.wide(0);
        b.reckons(0, 0, 0);
        b.rest(0, 1);
        b.type('c');
        b.clear();
        b.told(6);
        b.digest();
        due("no question leaves one", b.told(6), 3);
    }

    private static void statesHaveRangesAndRules() {
        says("to go back to (RANGES, RULES)");
        ranges(0, 9, 0, 9);
        b.rule(LESS, 0, 1, 0);
        b.rule(SAME, 0, 1, 0);
        b.drops(0);
        due("back()", b.back(), 4);
        due("the RULES", b.told(5), 2);
        due("in their order", b.about(0, 0), LESS);
        due("in their order", b.about(1, 0), SAME);
        due("back()", b.back(), 3);
        b.cuts();
        rangeIs("cut", 0, 0, 8);
        rangeIs("cut", 1, 1, 9);
        due("back()", b.back(), 3);
        rangeIs("not cut", 0, 0, 9);
        rangeIs("not cut", 1, 0, 9);
        b.of(9, 9);
        b.rest(0, 0);
        b.type('c');
        due("back()", b.back(), 2);
        due("how often refused stays", b.told(0), 1);
        due("how often refused stays", b.told(1), 1);
        due("THE TEXT stays", b.told(3), 1);
        due("back()", b.back(), 1);
        due("one UNKNOWN", b.told(4), 1);
    }

    private static void statesHaveAllOfARule() {
        says("to go back to (RANGES, RULES)");
        ranges(0, 9, 0, 9, 0, 9, 0, 9);
        b.rule(PRODUCT, 1, 2, 3);
        b.drops(0);
        b.rule(SUM, 3, 1, 2);
        due("back()", b.back(), 4);
        due("back()", b.back(), 3);
        int[] want = {PRODUCT, 1, 2, 3};
        for (int what = 0; what < 4; what++) {
            due("about(0, " + what + ")", b.about(0, what), want[what]);
        }
    }

    private static void statesFiveAtMost() {
        says("5 at most, older ones lost.");
        for (int i = 0; i < 4; i++) {
            b.cuts();
        }
        due("four", b.told(6), 4);
        b.cuts();
        due("five", b.told(6), 5);
        b.cuts();
        due("five at most", b.told(6), 5);
        for (int left = 4; left >= 0; left--) {
            due("back()", b.back(), left);
        }
        refuses(NO, "the sixth", () -> b.back());
    }

    private static void statesOlderOnesLost() {
        says("older ones lost.");
        ranges(0, 0);
        for (int i = 1; i <= 13; i++) {
            b.range(0, i, i);
        }
        for (int i = 12; i >= 8; i--) {
            due("back()", b.back(), i - 8);
            rangeIs("as it was", 0, i, i);
        }
        refuses(NO, "those ahead are lost", () -> b.back());
        rangeIs("as it is", 0, 8, 8);
    }

    private static void refusedQuestions() {
        says("Refused (a question, too), changing nothing but how often");
        refuses(BAD, "of", () -> b.of(0, 0));
        refuses(BAD, "holding", () -> b.holding(0));
        refuses(BAD, "about", () -> b.about(0, 0));
        refuses(BAD, "would", () -> b.would(0, 0, 0));
        refuses(BAD, "does", () -> b.does(9, 0, 0, 0));
        refuses(BAD, "solves", () -> b.solves(0, 0));
        refuses(BAD, "point", () -> b.point(1, 0));
        refuses(BAD, "narrow", () -> b.narrow(-1L));
        refuses(NO, "narrow", () -> b.narrow(0x7ff0000000000000L));
        refuses(BAD, -1, "wide", () -> b.wide(INFINITY));
        refuses(BAD, "reckons", () -> b.reckons(2, 0, 0));
        refuses(BAD, "rest", () -> b.rest(INFINITY, 0));
        refuses(NO, "rest", () -> b.rest(0, 0));
        refuses(BAD, "told", () -> b.told(7));
        due("BAD", b.told(0), 12);
        due("NO", b.told(1), 2);
        due("FULL", b.told(2), 0);
    }

    private static void refusedChangesNothing() {
        says("changing nothing but how often");
        ranges(1, 2, 3, 4);
        b.rule(LESS, 0, 1, 0);
        text("c;");
        refuses(BAD, "unknown", () -> b.unknown(1, 0));
        refuses(BAD, "range", () -> b.range(2, 0, 0));
        refuses(BAD, "range", () -> b.range(0, 5, 4));
        refuses(BAD, "rule", () -> b.rule(6, 0, 0, 0));
        refuses(BAD, "drops", () -> b.drops(1));
        refuses(BAD, "type", () -> b.type(200));
        due("THE TEXT is as it was", b.reads(), 1);
        b.back();
        due("the STATES are as they were", b.back(), 2);
        due("RULES", b.told(5), 0);
        b.back();
        b.back();
        refuses(NO, "back", () -> b.back());
    }

    private static void refusedTheFirstOf() {
        says("the first of: BAD -2139095050 a number is not as told; NO -2139095051 as told; FULL -2139095052 as told.");
        ranges(0, 3, 0, 0, 0, 0, 0, 0, 0, 0, 0, 0);
        refuses(BAD, "unknown: BAD ahead of FULL", () -> b.unknown(INFINITY, INFINITY));
        refuses(FULL, "unknown: FULL", () -> b.unknown(GREATEST, GREATEST));
        refuses(BAD, "point: BAD ahead of NO", () -> b.point(1, 6));
        refuses(NO, "point: NO", () -> b.point(1, 5));
        refuses(BAD, "rest: BAD ahead of NO", () -> b.rest(INFINITY, -1));
        refuses(NO, "rest: NO", () -> b.rest(GREATEST, -1));
        for (int i = 0; i < 120; i++) {
            b.type(i);
        }
        refuses(BAD, "type: BAD ahead of FULL", () -> b.type(128));
        refuses(FULL, "type: FULL", () -> b.type(127));
        for (int k = 0; k < 6; k++) {
            b.rule(SAME, 0, 0, 0);
        }
        refuses(BAD, "rule: BAD ahead of FULL", () -> b.rule(SAME, 0, 6, 0));
        refuses(FULL, "rule: FULL", () -> b.rule(SAME, 0, 5, 0));
        due("BAD", b.told(0), 5);
        due("NO", b.told(1), 2);
        due("FULL", b.told(2), 3);
    }

    private static void refusalsAreNumbers() {
        says("NONE = -2139095049, BAD = -2139095050, NO = -2139095051, FULL = -2139095052");
        due("NONE", FloatBoxes.NONE, -2139095049);
        due("BAD", FloatBoxes.BAD, -2139095050);
        due("NO", FloatBoxes.NO, -2139095051);
        due("FULL", FloatBoxes.FULL, -2139095052);
        due("no PLACE is one of them", b.wide(FloatBoxes.NONE), -1);
    }

    private static void backHowMany() {
        says("A STATE back: how many can be yet. NO: none.");
        ranges(0, 1);
        due("none more", b.back(), 0);
        due("UNKNOWNS", b.told(4), 0);
        ranges(0, 1, 0, 1, 0, 1);
        due("two more", b.back(), 2);
        due("one more", b.back(), 1);
        due("going back leaves no STATE", b.told(6), 1);
    }

    private static void backNo() {
        says("NO: none.");
        refuses(NO, "of a new object", () -> b.back());
        ranges(0, 1);
        b.back();
        refuses(NO, "all is taken back", () -> b.back());
        refuses(NO, "again", () -> b.back());
    }

    private static void backThenOther() {
        says("STATES: each call told S, if it is not refused, leaves one, also if nothing changes by it, to go back to");
        ranges(0, 0);
        for (int i = 1; i <= 5; i++) {
            b.range(0, i, i);
        }
        b.back();
        b.back();
        b.range(0, 7, 7);
        due("what was taken back is lost", b.told(6), 4);
        int[] want = {3, 2, 1, 0};
        for (int i = 0; i < 4; i++) {
            due("back()", b.back(), 3 - i);
            rangeIs("as it was", 0, want[i], want[i]);
        }
        refuses(NO, "the first call's is lost", () -> b.back());
    }

    private static void toldEach() {
        says("How often refused: BAD (0), NO (1), FULL (2); bytes of THE TEXT (3), UNKNOWNS (4), RULES (5), STATES (6).");
        ranges(0, 0, 0, 0, 0, 0, 0, 0, 0, 0, 0, 0);
        b.unknown(0, 0);
        b.unknown(0, 0);
        b.unknown(0, 0);
        b.rest(0, 0);
        b.rest(0, 0);
        b.of(6, 0);
        b.rule(SAME, 0, 0, 0);
        b.type(1);
        b.type(2);
        b.type(3);
        b.type(4);
        b.back();
        b.back();
        int[] want = {1, 2, 3, 4, 5, 0, 3};
        for (int what = 0; what <= 6; what++) {
            due("told(" + what + ")", b.told(what), want[what]);
        }
        b.rule(SAME, 0, 0, 0);
        due("RULES", b.told(5), 1);
    }

    private static void toldBad() {
        says("`int told(int what)`");
        refuses(BAD, "what -1", () -> b.told(-1));
        refuses(BAD, "what 7", () -> b.told(7));
        refuses(BAD, "the least int", () -> b.told(Integer.MIN_VALUE));
        due("how often", b.told(0), 3);
    }

    private static long hash(long... values) {
        long h = 2377;
        for (long v : values) {
            h = 31 * h + v;
        }
        return h;
    }

    private static void digestOfNothing() {
        says("h = 2377; then h = 31 h + v for each v");
        due("of nothing all RULES HOLD", b.digest(), hash(0, 0, 0, 0, 0, 0, 0, 1));
        due("asked again", b.digest(), hash(0, 0, 0, 0, 0, 0, 0, 1));
    }

    private static void digestOfAll() {
        says("told(0) to told(6); of UNKNOWNS LOW, HIGH; of RULES KIND, x, y, z");
        b.of(0, 0);
        b.rest(0, 0);
        b.rest(0, 0);
        text("abc");
        ranges(LEAST, GREATEST, -1, 0);
        b.rule(MOST, 1, 0, 1);
        b.rule(TURNED, 0, 1, 0);
        due("digest()", b.digest(), hash(1, 2, 0, 3, 2, 2, 4, LEAST, GREATEST, -1, 0, MOST, 1, 0, 1, TURNED, 0, 1, 0, 0));
        b.drops(1);
        due("a RULE less", b.digest(), hash(1, 2, 0, 3, 2, 1, 5, LEAST, GREATEST, -1, 0, MOST, 1, 0, 1, 1));
    }

    private static void digestOfLows() {
        says("whether all RULES HOLD of all LOWS (1, 0).");
        ranges(3, 9, 4, 9);
        b.rule(LESS, 0, 1, 0);
        due("3 is less than 4", b.digest(), hash(0, 0, 0, 0, 2, 1, 3, 3, 9, 4, 9, LESS, 0, 1, 0, 1));
        b.rule(LESS, 1, 0, 0);
        due("4 is not less than 3", b.digest(), hash(0, 0, 0, 0, 2, 2, 4, 3, 9, 4, 9, LESS, 0, 1, 0, LESS, 1, 0, 0, 0));
        b.drops(0);
        due("the last alone", b.digest(), hash(0, 0, 0, 0, 2, 1, 5, 3, 9, 4, 9, LESS, 1, 0, 0, 0));
        b.range(0, 5, 9);
        due("of LOWS, not HIGHS", b.digest(), hash(0, 0, 0, 0, 2, 1, 5, 5, 9, 4, 9, LESS, 1, 0, 0, 1));
    }
}
