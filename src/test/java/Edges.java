import java.io.IOException;
import java.io.UncheckedIOException;
import java.nio.file.Files;
import java.nio.file.Path;
import java.util.function.LongSupplier;

/** What the tests of boundary cases share: each case stands under the words of the document that name it. */
abstract class Edges {
    static final int LEAST = Numbers.LEAST;
    static final int GREATEST = Numbers.GREATEST;
    static final int INFINITY = GREATEST + 1;
    static final int MINUS_INFINITY = LEAST - 1;
    static final int NONE = Numbers.NONE;
    static final int BAD = Numbers.BAD;
    static final int NO = Numbers.NO;
    static final int FULL = Numbers.FULL;
    static final int SUM = 0;
    static final int PRODUCT = 1;
    static final int MOST = 2;
    static final int LESS = 3;
    static final int SAME = 4;
    static final int TURNED = 5;

    private static final String DOCUMENT = document();

    static FloatBoxes b;
    private static String words = "";

    private static String document() {
        try {
            return Files.readString(Path.of("../shared/DOC.md"));
        } catch (IOException e) {
            throw new UncheckedIOException(e);
        }
    }

    /** Begins the test of some words of the document, with a new object. */
    static void says(String wordsOfDocument) {
        words = wordsOfDocument;
        Check.isTrue("the document says '" + words + "'", DOCUMENT.contains(words));
        again();
    }

    /** A new object for the same words. */
    static void again() {
        b = new FloatBoxes();
    }

    static void due(String call, long got, long want) {
        Check.due("'" + words + "': " + call, got, want);
    }

    static void isTrue(String what, boolean so) {
        Check.isTrue("'" + words + "': " + what, so);
    }

    static int at(float f) {
        return Numbers.place(f);
    }

    static long bits(double d) {
        return Double.doubleToRawLongBits(d);
    }

    /** Unknowns by their ranges: low, high, low, high .. */
    static void ranges(int... lowsAndHighs) {
        for (int i = 0; i < lowsAndHighs.length; i += 2) {
            due("unknown(" + lowsAndHighs[i] + ", " + lowsAndHighs[i + 1] + ")",
                    b.unknown(lowsAndHighs[i], lowsAndHighs[i + 1]), i / 2);
        }
    }

    static void rangeIs(String when, int u, int low, int high) {
        due("LOW of " + u + " " + when, b.of(u, 0), low);
        due("HIGH of " + u + " " + when, b.of(u, 1), high);
    }

    static void text(String bytes) {
        b.clear();
        for (int i = 0; i < bytes.length(); i++) {
            due("type of byte " + i + " of '" + bytes + "'", b.type(bytes.charAt(i)), i + 1);
        }
    }

    static void refuses(int why, String call, LongSupplier answer) {
        refuses(why, why, call, answer);
    }

    /**
     * The call answers as told and changes nothing but how often was refused: the digest is then
     * the old one and 31 to the power of how many numbers stand behind that count in it.
     */
    static void refuses(int why, long want, String call, LongSupplier answer) {
        int behind = 6 - (BAD - why) + 2 * b.told(4) + 4 * b.told(5) + 1;
        long expected = b.digest();
        long power = 1;
        for (int i = 0; i < behind; i++) {
            power *= 31;
        }
        expected += power;
        due(call, answer.getAsLong(), want);
        due("digest() behind " + call, b.digest(), expected);
    }
}
