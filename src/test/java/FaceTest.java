import java.lang.reflect.Array;
import java.lang.reflect.Constructor;
import java.lang.reflect.Field;
import java.lang.reflect.Method;
import java.lang.reflect.Modifier;
import java.nio.file.Files;
import java.nio.file.Path;
import java.util.Arrays;
import java.util.IdentityHashMap;
import java.util.List;
import java.util.Map;
import java.util.Set;
import java.util.TreeSet;
import java.util.regex.Matcher;
import java.util.regex.Pattern;

/** The public face, and what of LANGUAGE.md can be seen from the outside. */
public final class FaceTest {
    private static final String[] METHODS = {"int unknown(int, int)", "int range(int, int, int)",
        "int rule(int, int, int, int)", "int drops(int)", "int cuts()", "int of(int, int)", "long holding(int)",
        "int about(int, int)", "int would(int, int, int)", "int does(int, int, int, int)", "int solves(int, int)",
        "int point(int, int)", "int whole(int)", "int narrow(long)", "long wide(int)", "int reckons(int, int, int)",
        "int rest(int, int)", "int type(int)", "int clear()", "int reads()", "int back()", "int told(int)",
        "long digest()"};
    private static final String[] RULED_OUT = {"->", "::", "\\bfinally\\b", "\\btry\\b", "\\bcatch\\b", "\\bimport\\b",
        "\\bpackage\\b", "\\bfloat\\s+\\w", "\\bdouble\\s+\\w", "Exact\\(", "\\bFloat\\.", "\\bDouble\\.",
        "\\bsynchronized\\b", "\\bassert\\b", "\\bSystem\\.(?!arraycopy)", "[^\\x00-\\x7f]"};
    private static final int LONGEST_METHOD = 60;

    public static void main(String[] args) throws Exception {
        checkFace();
        checkClasses();
        checkSource(Files.readString(Path.of("src/main/java/FloatBoxes.java")));
        checkRoom();
        Check.finish();
    }

    private static void checkFace() throws Exception {
        Check.isTrue("public and final", FloatBoxes.class.getModifiers() == (Modifier.PUBLIC | Modifier.FINAL));
        Set<String> methods = new TreeSet<>();
        Set<String> names = new TreeSet<>();
        for (Method m : FloatBoxes.class.getDeclaredMethods()) {
            if (Modifier.isPrivate(m.getModifiers())) {
                continue;
            }
            String arguments = Arrays.toString(m.getParameterTypes()).replace("[", "(").replace("]", ")");
            methods.add(m.getReturnType() + " " + m.getName() + arguments);
            names.add(m.getName());
            Check.isTrue(m + " is public and no more", m.getModifiers() == Modifier.PUBLIC);
        }
        Check.isTrue("methods " + methods, methods.equals(new TreeSet<>(List.of(METHODS))));
        Constructor<?>[] constructors = FloatBoxes.class.getDeclaredConstructors();
        Check.isTrue("one public constructor", constructors.length == 1
                && constructors[0].getModifiers() == Modifier.PUBLIC && constructors[0].getParameterCount() == 0);
        Set<String> fields = new TreeSet<>();
        for (Field f : FloatBoxes.class.getDeclaredFields()) {
            if (!Modifier.isPrivate(f.getModifiers())) {
                fields.add(f.getName());
            }
        }
        Check.isTrue("constants " + fields, fields.equals(Set.of("NONE", "BAD", "NO", "FULL")));
        Check.due("NONE", FloatBoxes.class.getField("NONE").getInt(null), -2139095049);
        Check.due("BAD", FloatBoxes.class.getField("BAD").getInt(null), -2139095050);
        Check.due("NO", FloatBoxes.class.getField("NO").getInt(null), -2139095051);
        Check.due("FULL", FloatBoxes.class.getField("FULL").getInt(null), -2139095052);
        checkNames(FloatBoxes.class, names);
        for (Class<?> inside : FloatBoxes.class.getDeclaredClasses()) {
            checkNames(inside, names);
        }
    }

    private static void checkNames(Class<?> type, Set<String> names) {
        for (Method m : type.getDeclaredMethods()) {
            boolean isOfFace = type == FloatBoxes.class && Modifier.isPublic(m.getModifiers());
            Check.isTrue(m + " bears a name of its own", isOfFace || !names.contains(m.getName()));
            Check.isTrue(m + " has few parameters", m.getParameterCount() <= 7);
        }
    }

    private static void checkClasses() {
        Class<?>[] inside = FloatBoxes.class.getDeclaredClasses();
        Check.isTrue("at most twelve classes", inside.length < 12);
        checkFields(FloatBoxes.class);
        for (Class<?> type : inside) {
            Check.isTrue(type + " is static", Modifier.isStatic(type.getModifiers()));
            Check.isTrue(type + " is not public", !Modifier.isPublic(type.getModifiers())
                    && !Modifier.isProtected(type.getModifiers()));
            checkFields(type);
        }
    }

    private static void checkFields(Class<?> type) {
        int own = 0;
        for (Field f : type.getDeclaredFields()) {
            if (Modifier.isStatic(f.getModifiers())) {
                Check.isTrue(f + " is final", Modifier.isFinal(f.getModifiers()));
            } else {
                own++;
            }
        }
        Check.isTrue(type + " has few fields", own <= 20);
    }

    private static void checkSource(String source) {
        String code = source.replaceAll("(?s)/\\*.*?\\*/", "").replaceAll("//[^\n]*", "");
        for (String pattern : RULED_OUT) {
            Matcher m = Pattern.compile(pattern).matcher(code);
            Check.isTrue("the source is without " + pattern, !m.find());
        }
        checkLengths(source.split("\n"));
        checkNews(source.split("\n"));
    }

    /** All calls of a run share one room, so that objects and arrays are made in constructors and for fields alone. */
    private static void checkNews(String[] lines) {
        boolean inConstructor = false;
        for (String line : lines) {
            if (line.matches("( {4}| {8})(public )?[A-Z]\\w*\\(.*\\) \\{")) {
                inConstructor = true;
            } else if (line.matches(" {4}\\}| {8}\\}")) {
                inConstructor = false;
            }
            boolean isField = line.matches(" {4,8}(private )?final \\S+ \\w+ = new .*;");
            boolean makes = line.matches(".*\\b(new|clone|copyOf|copyOfRange)\\b[ (].*") && !line.contains("*");
            Check.isTrue(line.trim() + " makes nothing anew each call", !makes || isField || inConstructor);
        }
    }

    private static void checkRoom() throws Exception {
        Map<Object, Boolean> seen = new IdentityHashMap<>();
        long size = sizeOf(new FloatBoxes(), seen);
        Check.isTrue(seen.size() + " objects and arrays of an object", seen.size() <= 100);
        Check.isTrue(size + " fields and elements of an object", size <= 2000);
    }

    /** Fields and elements of an object and of all that it holds. */
    private static long sizeOf(Object o, Map<Object, Boolean> seen) throws Exception {
        if (o == null || seen.put(o, true) != null) {
            return 0;
        }
        if (o.getClass().isArray()) {
            long size = Array.getLength(o);
            for (int i = 0; o instanceof Object[] && i < Array.getLength(o); i++) {
                size += sizeOf(Array.get(o, i), seen);
            }
            return size;
        }
        long size = 0;
        for (Field f : o.getClass().getDeclaredFields()) {
            if (!Modifier.isStatic(f.getModifiers())) {
                f.setAccessible(true);
                size += 1 + (f.getType().isPrimitive() ? 0 : sizeOf(f.get(o), seen));
            }
        }
        return size;
    }

    /** A method begins with a line that ends with ') {' and ends with a brace as far to the right. */
    private static void checkLengths(String[] lines) {
        Pattern head = Pattern.compile("^( {4}| {8})(?:public |private |static |final )*[\\w\\[\\]]+(?: \\w+)?\\(.*\\) \\{$");
        for (int i = 0; i < lines.length; i++) {
            Matcher m = head.matcher(lines[i]);
            if (!m.matches()) {
                continue;
            }
            int end = i;
            while (end < lines.length && !lines[end].equals(m.group(1) + "}")) {
                end++;
            }
            Check.isTrue(lines[i].trim() + " is short", end - i < LONGEST_METHOD);
        }
    }
}
