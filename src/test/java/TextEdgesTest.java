/** Boundary cases of THE TEXT, promises 19 to 21. */
public final class TextEdgesTest extends Edges {
    public static void main(String[] args) {
        bytesAtMost();
        bytesFromTo();
        clearEdges();
        ordersEndBySemicolon();
        orderOfUnknown();
        asNearAsNumbersCome();
        zeroOfUnknown();
        orderOfRule();
        zOfRule();
        orderOfCuts();
        orderOfDrops();
        figures();
        minusAhead();
        blanksAnywhere();
        blanksWithin();
        blanksBehindMinus();
        blanksNeeded();
        blanksAre32();
        faultFirstByte();
        faultTenthFigure();
        faultEndsTooEarly();
        faultOfEmpty();
        faultOfBlanks();
        faultDoesNothing();
        faultAheadOfOrders();
        answerOfAFault();
        refusedOrderStops();
        refusedOrderDoesNothing();
        refusedByFull();
        emptyIsNoRefusal();
        mostOrders();
        readsStays();
        readsOneState();
        readsSeesItsOwn();
        byTheTextNothingCounts();
        Check.finish();
    }

    private static void reads(String bytes, int want) {
        text(bytes);
        due("reads() of '" + bytes + "'", b.reads(), want);
    }

    /** Likewise with nothing there ahead of it. */
    private static void readsNew(String bytes, int want) {
        again();
        reads(bytes, want);
    }

    private static void fault(String bytes, int at) {
        again();
        text(bytes);
        long before = b.digest();
        due("reads() of '" + bytes + "'", b.reads(), -10 - at);
        due("digest() behind '" + bytes + "'", b.digest(), before);
    }

    private static void stops(String bytes, int order) {
        again();
        text(bytes);
        long before = b.digest();
        due("reads() of '" + bytes + "'", b.reads(), -1000 - order);
        due("digest() behind '" + bytes + "'", b.digest(), before);
    }

    private static void bytesAtMost() {
        says("A byte (0 .. 127) comes behind THE TEXT: how many it has. BAD; FULL: 120.");
        for (int i = 1; i <= 120; i++) {
            due("byte " + i, b.type('c'), i);
        }
        refuses(FULL, "the 121st", () -> b.type('c'));
        refuses(FULL, "again", () -> b.type(0));
        refuses(BAD, "BAD goes ahead of FULL", () -> b.type(128));
        refuses(BAD, "BAD goes ahead of FULL", () -> b.type(-1));
        due("told(3)", b.told(3), 120);
        due("clear()", b.clear(), 120);
        due("room again", b.type('c'), 1);
    }

    private static void bytesFromTo() {
        says("A byte (0 .. 127) comes behind THE TEXT");
        refuses(BAD, "-1", () -> b.type(-1));
        due("0", b.type(0), 1);
        due("127", b.type(127), 2);
        refuses(BAD, "128", () -> b.type(128));
        refuses(BAD, "the least int", () -> b.type(Integer.MIN_VALUE));
        refuses(BAD, "the greatest int", () -> b.type(Integer.MAX_VALUE));
        refuses(BAD, "c and 256", () -> b.type('c' + 256));
        due("no STATE", b.told(6), 0);
    }

    private static void clearEdges() {
        says("THE TEXT is empty: how many it had.");
        due("empty", b.clear(), 0);
        text("c;");
        due("two", b.clear(), 2);
        due("empty again", b.clear(), 0);
        due("bytes", b.told(3), 0);
        due("nothing to read", b.reads(), -10);
        text("c");
        due("the ; of before is gone", b.reads(), -11);
        due("no STATE", b.told(6), 0);
    }

    private static void ordersEndBySemicolon() {
        says("THE TEXT (120 bytes at most) tells ORDERS, each ended by ; :");
        readsNew("c;", 1);
        readsNew("c;c;", 2);
        fault("c", 1);
        fault("c;c", 3);
        fault("cc;", 1);
        fault(";", 0);
        fault("c;;", 2);
        fault("c;c;;c;", 4);
        fault("u 1 2", 5);
        fault("u 1 2 u 1 2;", 6);
    }

    private static void orderOfUnknown() {
        says("u a b (an UNKNOWN from the whole number a to b");
        readsNew("u 1 2;", 1);
        rangeIs("", 0, at(1), at(2));
        readsNew("u -3 -3;", 1);
        rangeIs("", 0, at(-3), at(-3));
        readsNew("u -999999999 999999999;", 1);
        rangeIs("", 0, at(-999999999f), at(999999999f));
        fault("u;", 1);
        fault("u 1;", 3);
        fault("u 1 2 3;", 6);
        fault("u 1,2;", 3);
        stops("u 2 1;", 0);
    }

    private static void asNearAsNumbersCome() {
        says("as near as NUMBERS come");
        readsNew("u 16777217 16777219;", 1);
        rangeIs("halves to the even ones", 0, at(16777216f), at(16777220f));
        readsNew("u 16777217 16777216;", 1);
        rangeIs("they come to the same NUMBER", 0, at(16777216f), at(16777216f));
        stops("u 16777218 16777217;", 0);
    }

    private static void zeroOfUnknown() {
        says("0 being 0.0");
        readsNew("u 0 0;", 1);
        rangeIs("", 0, 0, 0);
        readsNew("u -0 0;", 1);
        rangeIs("", 0, 0, 0);
        readsNew("u 0 -0;", 1);
        rangeIs("", 0, 0, 0);
        readsNew("u-000000000-0;", 1);
        rangeIs("", 0, 0, 0);
    }

    private static void orderOfRule() {
        says("k KIND x y z (as rule; z 0 of 3, 4, 5)");
        readsNew("u 0 1;u 0 1;u 0 1;u 0 1;k 1 3 1 2;", 5);
        int[] want = {PRODUCT, 3, 1, 2};
        for (int what = 0; what < 4; what++) {
            due("about(0, " + what + ")", b.about(0, what), want[what]);
        }
        stops("u 0 1;k 6 0 0 0;", 1);
        stops("u 0 1;k 0 1 0 0;", 1);
        stops("u 0 1;k 0 0 1 0;", 1);
        stops("u 0 1;k 0 0 0 1;", 1);
        stops("k 0 0 0 0;", 0);
        stops("u 0 1;k 999999999 0 0 0;", 1);
        fault("u 0 1;k 0 0 0;", 13);
        fault("u 0 1;k 0 0 0 0 0;", 16);
    }

    private static void zOfRule() {
        says("z 0 of 3, 4, 5");
        for (int kind = LESS; kind <= TURNED; kind++) {
            readsNew("u 0 1;u 0 1;k " + kind + " 1 0 0;", 3);
            due("KIND", b.about(0, 0), kind);
            stops("u 0 1;u 0 1;k " + kind + " 1 0 1;", 2);
            fault("u 0 1;u 0 1;k " + kind + " 1 0;", 19);
        }
    }

    private static void orderOfCuts() {
        says("c (as cuts)");
        readsNew("c;", 1);
        due("nothing to cut", b.told(4), 0);
        readsNew("u 0 1;k 3 0 0 0;c;", 3);
        rangeIs("cut by 12 ROUNDS", 0, 12, at(1) - 12);
        readsNew("u 0 1;k 3 0 0 0;c;c;", 4);
        rangeIs("cut by 12 ROUNDS twice", 0, 24, at(1) - 24);
        fault("c 0;", 2);
    }

    private static void orderOfDrops() {
        says("x k (as drops)");
        readsNew("u 0 1;k 3 0 0 0;k 4 0 0 0;x 0;", 4);
        due("RULES", b.told(5), 1);
        due("the one behind is nearer", b.about(0, 0), SAME);
        readsNew("u 0 1;k 3 0 0 0;k 4 0 0 0;x 1;", 4);
        due("the last one", b.about(0, 0), LESS);
        stops("u 0 1;k 3 0 0 0;x 1;", 2);
        stops("x 0;", 0);
        stops("x 999999999;", 0);
        fault("x;", 1);
        fault("x 0 0;", 4);
        fault("x -0;", 2);
    }

    private static void figures() {
        says("Numbers have 1 to 9 figures");
        readsNew("u 7 8;", 1);
        rangeIs("one figure", 0, at(7), at(8));
        readsNew("u 000000007 123456789;", 1);
        rangeIs("nine figures", 0, at(7), at(123456789f));
        readsNew("u-000000007 00;", 1);
        rangeIs("nine figures behind -", 0, at(-7), 0);
        readsNew("u 0 1;k 000000003 000000000 00 0;x 000000000;", 3);
        fault("u  ;", 3);
        fault("u - 1;", 3);
        fault("u 0 -;", 5);
        fault("u /0 1;", 2);
        fault("u :0 1;", 2);
        fault("x /;", 2);
        fault("x :;", 2);
    }

    private static void minusAhead() {
        says("a and b perhaps - ahead");
        readsNew("u-2-1;", 1);
        rangeIs("both", 0, at(-2), at(-1));
        readsNew("u -2 1;", 1);
        rangeIs("a", 0, at(-2), at(1));
        stops("u 2 -1;", 0);
        fault("k -0 0 0 0;", 2);
        fault("k 0 -0 0 0;", 4);
        fault("k 0 0 -0 0;", 6);
        fault("k 0 0 0 -0;", 8);
        fault("x-0;", 1);
        fault("u --1 0;", 3);
        fault("u 0 --0;", 5);
        fault("u +1 2;", 2);
    }

    private static void blanksAnywhere() {
        says("blanks (32) may stand anywhere but within a number (none behind a -)");
        readsNew("  u  1  2  ;  c  ;  ", 2);
        rangeIs("", 0, at(1), at(2));
        readsNew(" u -1 -1 ; k  0  0  0  0 ; x 0 ; ", 3);
        readsNew("c; ", 1);
        readsNew(" c;", 1);
    }

    private static void blanksWithin() {
        says("may stand anywhere but within a number");
        fault("u 1 2 3;", 6);
        fault("x 1 0;", 4);
    }

    private static void blanksBehindMinus() {
        says("none behind a -");
        fault("u - 1 2;", 3);
        fault("u 0 - 1;", 5);
        fault("u- 1 2;", 2);
    }

    private static void blanksNeeded() {
        says("needed only where figures of two numbers would else stand side by side.");
        readsNew("u1 2;k0 0 0 0;x0;c;", 4);
        readsNew("u-1-1;", 1);
        readsNew("u-1 1;c;", 2);
        readsNew("u1-1;", -1000);
        fault("u12;", 3);
        fault("k0000;", 5);
        fault("k0 000;", 6);
    }

    private static void blanksAre32() {
        says("blanks (32)");
        fault("\tc;", 0);
        fault("c\n;", 1);
        fault("c;\r", 2);
        fault("u\0001 2;", 1);
        fault("u 1\t2;", 3);
        fault("c;\037", 2);
        fault("c;!", 2);
    }

    private static void faultFirstByte() {
        says("FAULT: the place of the first byte that can not stand there");
        fault("q", 0);
        fault("C;", 0);
        fault("U 1 2;", 0);
        fault("1;", 0);
        fault("-1;", 0);
        fault("c;q;q;", 2);
        fault("u 1 2;k 0 0 0 q;", 14);
        fault("uu 1 2;", 1);
        fault("u 1u 2;", 3);
        fault("x 0c;", 3);
        fault("u 1 -q", 5);
        fault("u 1 2;\177", 6);
    }

    private static void faultTenthFigure() {
        says("(a tenth figure, too)");
        fault("u 1234567890 1;", 11);
        fault("u 1 1234567890;", 13);
        fault("u -1234567890 1;", 12);
        fault("u 0000000000 1;", 11);
        fault("k 0000000000 0 0 0;", 11);
        fault("k 0 0 0 0000000000;", 17);
        fault("x 0000000000;", 11);
        fault("u 123456789012 1", 11);
        readsNew("u 123456789 123456789;", 1);
    }

    private static void faultEndsTooEarly() {
        says("the TEXT's length, if it ends too early");
        fault("c", 1);
        fault("c ", 2);
        fault("c;c", 3);
        fault("u", 1);
        fault("u ", 2);
        fault("u -", 3);
        fault("u 1", 3);
        fault("u 123456789", 11);
        fault("u 1 2", 5);
        fault("k 0 0 0 0", 9);
        fault("x", 1);
        fault("x 0", 3);
        fault("x 0  ", 5);
    }

    private static void faultOfEmpty() {
        says("(an empty one, one of blanks alone, too)");
        due("reads() of nothing typed", b.reads(), -10);
        fault("", 0);
        due("no STATE", b.told(6), 0);
    }

    private static void faultOfBlanks() {
        says("one of blanks alone, too");
        fault(" ", 1);
        fault("  ", 2);
        again();
        for (int i = 0; i < 120; i++) {
            b.type(' ');
        }
        due("120 blanks", b.reads(), -130);
        again();
        for (int i = 0; i < 119; i++) {
            b.type(' ');
        }
        b.type('c');
        due("119 blanks and c", b.reads(), -130);
    }

    private static void faultDoesNothing() {
        says("If there is one, nothing is done.");
        fault("u 1 2;u 1 2", 11);
        due("no UNKNOWN", b.told(4), 0);
        due("no STATE", b.told(6), 0);
        fault("u 1 2;u 3 4;c;q", 14);
        due("THE TEXT stays", b.told(3), 15);
        refuses(NO, "nothing to go back to", () -> b.back());
    }

    private static void faultAheadOfOrders() {
        says("If there is one, nothing is done. An ORDER that its call would refuse stops all: nothing is done.");
        fault("x 0;q", 4);
        fault("u 2 1;u", 7);
        fault("x 0;x 0", 7);
    }

    private static void answerOfAFault() {
        says("-10 less the FAULT");
        readsNew("q", -10);
        readsNew("c;q", -12);
        again();
        for (int i = 0; i < 118; i++) {
            b.type(i % 2 == 0 ? 'c' : ';');
        }
        b.type('c');
        b.type('c');
        due("at the last byte", b.reads(), -129);
        again();
        for (int i = 0; i < 119; i++) {
            b.type(i % 2 == 0 ? 'c' : ';');
        }
        due("behind the last byte", b.reads(), -129);
        b.type(' ');
        due("behind the 120th byte", b.reads(), -130);
        for (int what = 0; what <= 2; what++) {
            due("a FAULT is no refusal: told(" + what + ")", b.told(what), 0);
        }
    }

    private static void refusedOrderStops() {
        says("-1000 less the number (0 on) of the ORDER that stops all.");
        stops("x 0;", 0);
        stops("c;x 0;", 1);
        stops("c;c;c;x 0;x 0;", 3);
        stops("u 2 1;u 1 2;", 0);
        stops("c;c;c;c;c;c;c;c;c;c;c;c;c;c;c;c;c;c;c;c;c;c;c;c;c;c;c;c;c;c;c;c;c;c;c;c;c;c;c;c;c;c;c;c;c;"
                + "c;c;c;c;c;c;c;c;c;c;c;c;c;x0;", 58);
    }

    private static void refusedOrderDoesNothing() {
        says("An ORDER that its call would refuse stops all: nothing is done.");
        again();
        ranges(0, 100);
        b.rule(LESS, 0, 0, 0);
        text("u 1 2;c;x 0;x 0;");
        long before = b.digest();
        due("the last ORDER is refused", b.reads(), -1003);
        due("nothing is done", b.digest(), before);
        rangeIs("not cut", 0, 0, 100);
        due("no UNKNOWN more", b.told(4), 1);
        due("the RULE is there", b.told(5), 1);
        due("no STATE more", b.told(6), 2);
        due("not even BAD is told", b.told(0), 0);
    }

    private static void refusedByFull() {
        says("An ORDER that its call would refuse stops all");
        readsNew("u 0 0;u 0 0;u 0 0;u 0 0;u 0 0;u 0 0;", 6);
        due("six UNKNOWNS", b.told(4), 6);
        reads("u 0 0;", -1000);
        due("nothing counts", b.told(2), 0);
        stops("u 0 0;u 0 0;u 0 0;u 0 0;u 0 0;u 0 0;u 0 0;", 6);
        readsNew("u 0 0;k3 0 0 0;k3 0 0 0;k3 0 0 0;k3 0 0 0;k3 0 0 0;k3 0 0 0;", 7);
        due("six RULES", b.told(5), 6);
        reads("k3 0 0 0;", -1000);
        reads("x5;k4 0 0 0;", 2);
        due("KIND of the last", b.about(5, 0), SAME);
        stops("u 0 0;k3 0 0 0;k3 0 0 0;k3 0 0 0;k3 0 0 0;k3 0 0 0;k3 0 0 0;k3 0 0 0;", 7);
    }

    private static void emptyIsNoRefusal() {
        says("c (as cuts)");
        readsNew("u 5 5;k3 0 0 0;c;u 6 6;", 4);
        rangeIs("as it was", 0, at(5), at(5));
        rangeIs("the ORDERS behind are done", 1, at(6), at(6));
    }

    private static void mostOrders() {
        says("THE TEXT (120 bytes at most)");
        again();
        for (int i = 0; i < 60; i++) {
            b.type('c');
            b.type(';');
        }
        due("60 ORDERS", b.reads(), 60);
        again();
        for (int i = 0; i < 118; i++) {
            b.type(' ');
        }
        b.type('c');
        b.type(';');
        due("the last two bytes", b.reads(), 1);
        refuses(FULL, "no more", () -> b.type(' '));
    }

    private static void readsStays() {
        says("ORDERS are done (THE TEXT stays): how many.");
        readsNew("u 1 2;", 1);
        due("bytes", b.told(3), 6);
        due("again", b.reads(), 1);
        due("UNKNOWNS", b.told(4), 2);
        b.back();
        due("bytes behind back()", b.told(3), 6);
        b.type('c');
        b.type(';');
        due("with more behind", b.reads(), 2);
        due("bytes", b.told(3), 8);
    }

    private static void readsOneState() {
        says("S (one STATE for all).");
        readsNew("u 1 2;u 3 4;c;", 3);
        due("one STATE", b.told(6), 1);
        due("back()", b.back(), 0);
        due("all is taken back", b.told(4), 0);
        reads("c;", 1);
        due("one, though nothing changes", b.told(6), 1);
    }

    private static void readsSeesItsOwn() {
        says("u a b (an UNKNOWN from the whole number a to b, as near as NUMBERS come, 0 being 0.0); k KIND x y z");
        readsNew("u 1 5;u 2 9;k 4 0 1 0;c;x 0;k 5 0 1 0;", 6);
        rangeIs("cut by a RULE that has gone", 0, at(2), at(5));
        due("the RULE left", b.about(0, 0), TURNED);
        reads("c;", 1);
        rangeIs("EMPTY, as it was", 0, at(2), at(5));
    }

    private static void byTheTextNothingCounts() {
        says("By THE TEXT nothing counts.");
        readsNew("x 0;", -1000);
        reads("u 2 1;", -1000);
        reads("q", -10);
        reads("", -10);
        for (int what = 0; what <= 2; what++) {
            due("told(" + what + ")", b.told(what), 0);
        }
    }
}
