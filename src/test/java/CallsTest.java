import java.io.PrintWriter;
import java.io.StringWriter;
import java.util.ArrayDeque;
import java.util.Collection;
import java.util.Deque;
import java.util.HashMap;
import java.util.Map;
import java.util.Set;
import java.util.TreeSet;
import java.util.regex.Matcher;
import java.util.regex.Pattern;
import java.util.spi.ToolProvider;

/** Rules 4, 8 and 11 of LANGUAGE.md: what the compiled class calls, and how deep its calls go. */
public final class CallsTest {
    private static final int DEEPEST = 8;
    private static final Set<String> LIBRARY = Set.of("java/lang/Object.<init>", "java/lang/Math.min",
        "java/lang/Math.max", "java/lang/Math.abs", "java/lang/Long.numberOfLeadingZeros", "java/lang/System.arraycopy");
    private static final Pattern HEAD = Pattern.compile("^  \\S.*?([\\w$]+)\\(.*\\);$");
    private static final Pattern CALL = Pattern.compile("// (?:Interface)?Method (?:([\\w/$]+)\\.)?\"?([\\w<>]+)\"?:");

    private static final Map<String, Set<String>> CALLED = new HashMap<>();

    public static void main(String[] args) {
        look("FloatBoxes");
        for (Class<?> inside : FloatBoxes.class.getDeclaredClasses()) {
            look(inside.getName());
        }
        Check.isTrue("the calls were seen", CALLED.containsKey("FloatBoxes.solves") && CALLED.size() > 60);
        CALLED.values().stream().flatMap(Collection::stream).filter(m -> !m.startsWith("FloatBoxes")).distinct()
                .forEach(m -> Check.isTrue(m + " is of the library's part that is used", LIBRARY.contains(m)));
        CALLED.keySet().forEach(m -> follow(m, new ArrayDeque<>()));
        Check.finish();
    }

    private static void look(String name) {
        StringWriter out = new StringWriter();
        ToolProvider.findFirst("javap").orElseThrow().run(new PrintWriter(out), new PrintWriter(System.out),
                "-p", "-c", "-cp", System.getProperty("java.class.path"), name);
        String method = "";
        for (String line : out.toString().split("\\R")) {
            Matcher head = HEAD.matcher(line);
            Matcher call = CALL.matcher(line);
            if (head.matches()) {
                method = name + "." + (head.group(1).equals(name) ? "<init>" : head.group(1));
                CALLED.putIfAbsent(method, new TreeSet<>());
            } else if (line.contains("invoke") && call.find()) {
                CALLED.get(method).add((call.group(1) == null ? name : call.group(1)) + "." + call.group(2));
            }
        }
    }

    private static void follow(String method, Deque<String> open) {
        boolean fine = !open.contains(method) && open.size() < DEEPEST;
        Check.isTrue(open + " " + method + " does not call itself and is at most eight deep", fine);
        if (!fine) {
            return;
        }
        open.addLast(method);
        for (String called : CALLED.getOrDefault(method, Set.of())) {
            follow(called, open);
        }
        open.removeLast();
    }
}
