import java.util.Random;

/** Promises 19 to 21: texts, those with a fault above all, against the grammar as a pattern. */
public final class TextTest {
    private static final int TURNS = 60000;
    private static final String SIGNS = "ukcx;;;  --0123456789qU\t";
    private static final String[] PIECES = {"u", "k", "c", "x", ";", " ", "-", "0", "1", "5", "c;", "u 1 2;", "u-3 4;",
        "k0 0 0 0;", "x0;", "123456789", "1234567890", "000000001", "k 4 0 1 0 ;", " ; ", "u-0-0;"};

    public static void main(String[] args) {
        Random random = new Random(23);
        for (int turn = 0; turn < TURNS; turn++) {
            check(anyText(random));
        }
        byHand();
        Check.finish();
    }

    private static String anyText(Random random) {
        StringBuilder s = new StringBuilder();
        int pieces = random.nextInt(12);
        for (int i = 0; i < pieces; i++) {
            s.append(PIECES[random.nextInt(PIECES.length)]);
        }
        int spoilt = random.nextInt(3);
        for (int i = 0; i < spoilt && s.length() > 0; i++) {
            s.setCharAt(random.nextInt(s.length()), SIGNS.charAt(random.nextInt(SIGNS.length())));
        }
        return s.substring(0, Math.min(s.length(), 120));
    }

    private static void check(String text) {
        FloatBoxes boxes = new FloatBoxes();
        Reference reference = new Reference();
        for (int i = 0; i < text.length(); i++) {
            Check.due("type", boxes.type(text.charAt(i)), i + 1);
            reference.type(text.charAt(i));
        }
        long want = reference.reads();
        Check.due("reads() of '" + text + "'", boxes.reads(), want);
        Check.due("digest() behind '" + text + "'", boxes.digest(), reference.digest());
    }

    private static void reads(String text, int want) {
        FloatBoxes boxes = new FloatBoxes();
        for (int i = 0; i < text.length(); i++) {
            boxes.type(text.charAt(i));
        }
        Check.due("reads() of '" + text + "'", boxes.reads(), want);
        check(text);
    }

    private static void byHand() {
        reads("", -10);
        reads("   ", -13);
        reads("c;", 1);
        reads(" c ; c;  ", 2);
        reads("c", -11);
        reads("c c;", -12);
        reads(";", -10);
        reads("c;;", -12);
        reads("u1 2;", 1);
        reads("u1-2;", -1000);
        reads("u-2-1;", 1);
        reads("u -2 1;", 1);
        reads("u--2 1;", -12);
        reads("u - 2 1;", -13);
        reads("u 1 2 3;", -16);
        reads("u 1 2 -", -16);
        reads("u 1;", -13);
        reads("u 1", -13);
        reads("u 123456789 1234567890;", -31);
        reads("u 123456789123456789 1;", -21);
        reads("u 000000000 000000001;", 1);
        reads("u 999999999 999999999;", 1);
        reads("u 16777217 16777216;", 1);
        reads("u 16777219 16777217;", -1000);
        reads("u 0 1;u 0 1;u 0 1;u 0 1;u 0 1;u 0 1;", 6);
        reads("u 0 1;u 0 1;u 0 1;u 0 1;u 0 1;u 0 1;u 0 1;", -1006);
        reads("u 0 1;k 3 0 0 0;k 3 0 0 0;k 3 0 0 0;k 3 0 0 0;k 3 0 0 0;k 3 0 0 0;", 7);
        reads("u 0 1;k 3 0 0 0;k 3 0 0 0;k 3 0 0 0;k 3 0 0 0;k 3 0 0 0;k 3 0 0 0;k 3 0 0 0;", -1007);
        reads("u 0 1;k 3 0 0 1;", -1001);
        reads("u 0 1;k 6 0 0 0;", -1001);
        reads("u 0 1;k 0 0 0 1;", -1001);
        reads("u 0 1;k 0 0 0 0;x 0;x 0;", -1003);
        reads("u 0 1;k 3 0 0 0;c;x 0;c;", 5);
        reads("k 3 -0 0 0;", -14);
        reads("k3 0 0 0", -18);
        reads("k3000;", -15);
        reads("x-0;", -11);
        reads("x 0;", -1000);
        reads("y;", -10);
        reads("C;", -10);
        reads("c;\n", -12);
        StringBuilder longest = new StringBuilder();
        for (int i = 0; i < 60; i++) {
            longest.append("c;");
        }
        reads(longest.toString(), 60);
    }
}
