import java.util.ArrayList;
import java.util.List;
import java.util.regex.Matcher;
import java.util.regex.Pattern;

/** The grammar of the text as one pattern. */
final class Grammar {
    record Order(char letter, int[] numbers) {
    }

    private static final String N = "[0-9]{1,9}";
    private static final String UNKNOWN = "u *-?" + N + "(?: *-| +)" + N;
    private static final String RULE = "k *" + N + "(?: +" + N + "){3}";
    private static final String ORDER = "(?:" + UNKNOWN + "|" + RULE + "|c|x *" + N + ")";
    // between the numbers of u: blanks and then perhaps a -, or a - at once
    private static final Pattern WHOLE = Pattern.compile("(?s) *(?:" + ORDER.replace("(?: *-| +)", "(?: *-| +-?)")
            + " *; *)+");
    private static final Pattern NUMBER = Pattern.compile("-?" + N);

    private Grammar() {
    }

    /** The place of the fault; -1, if there is none. */
    static int fault(String text) {
        for (int end = 1; end <= text.length(); end++) {
            Matcher m = WHOLE.matcher(text.substring(0, end));
            // what neither matches nor could match with more behind it ends with a byte that can not stand there
            if (!m.matches() && !m.hitEnd()) {
                return end - 1;
            }
        }
        return WHOLE.matcher(text).matches() ? -1 : text.length();
    }

    /** The orders of a text without fault. */
    static List<Order> orders(String text) {
        List<Order> all = new ArrayList<>();
        for (String part : text.split(";")) {
            String order = part.trim();
            if (order.isEmpty()) {
                continue;
            }
            Matcher m = NUMBER.matcher(order);
            List<Integer> numbers = new ArrayList<>();
            while (m.find()) {
                numbers.add(Integer.parseInt(m.group()));
            }
            all.add(new Order(order.charAt(0), numbers.stream().mapToInt(Integer::intValue).toArray()));
        }
        return all;
    }
}
