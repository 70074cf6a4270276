import java.io.IOException;
import java.lang.reflect.Method;
import java.lang.reflect.Modifier;
import java.nio.file.Files;
import java.nio.file.Path;

/** README.md tells of each call, and its example does what it says. */
public final class ReadmeTest {
    private static final int MOST_BOXES = 60;

    public static void main(String[] args) throws IOException {
        String readme = Files.readString(Path.of("README.md"));
        for (Method m : FloatBoxes.class.getDeclaredMethods()) {
            if (Modifier.isPublic(m.getModifiers())) {
                String call = "`" + m.getName() + "(" + (m.getParameterCount() == 0 ? ")`" : "");
                Check.isTrue("README.md tells of " + m.getName(), readme.contains(call));
            }
        }
        Check.isTrue("README.md tells how to run the tests", readme.contains("`.ci/run`"));
        example();
        exampleByText(readme);
        Check.finish();
    }

    private static void example() {
        FloatBoxes b = new FloatBoxes();
        int x = b.unknown(b.whole(1), b.whole(10));
        int y = b.unknown(b.whole(2), b.whole(5));
        int z = b.unknown(b.whole(4), b.whole(6));
        Check.due("the sum", b.rule(0, x, y, z), 0);
        Check.due("the order", b.rule(3, y, x, 0), 1);
        Check.due("cuts()", b.cuts(), 2);
        Check.due("the greatest x left", b.wide(b.of(x, 1)), Double.doubleToRawLongBits(4));
        Check.due("a point was found", b.solves(MOST_BOXES, 0), 0);
        Check.due("its x", b.point(MOST_BOXES, x), b.whole(2) + 1);
        Check.due("back()", b.back(), 4);
        Check.due("x as it was", b.of(x, 1), b.whole(10));
    }

    /** The text of README.md leads to the same ranges and rules. */
    private static void exampleByText(String readme) {
        String text = "u 1 10; u 2 5; u 4 6; k 0 0 1 2; k 3 1 0 0; c;";
        Check.isTrue("README.md has the text", readme.contains("`" + text + "`"));
        FloatBoxes b = new FloatBoxes();
        for (int i = 0; i < text.length(); i++) {
            Check.due("type", b.type(text.charAt(i)), i + 1);
        }
        Check.due("reads()", b.reads(), 6);
        Check.due("x is cut", b.of(0, 1), b.whole(4));
        Check.due("a point was found", b.solves(MOST_BOXES, 0), 0);
        Check.due("its x", b.point(MOST_BOXES, 0), b.whole(2) + 1);
    }
}
