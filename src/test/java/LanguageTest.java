import java.lang.reflect.Constructor;
import java.lang.reflect.Field;
import java.lang.reflect.Method;
import java.lang.reflect.Modifier;
import java.nio.file.Files;
import java.nio.file.Path;
import java.util.Arrays;
import java.util.Set;
import java.util.TreeMap;
import java.util.TreeSet;
import java.util.regex.Matcher;
import java.util.regex.Pattern;

/** The face is the document's and no more; the source has none of the words that LANGUAGE.md rules out. */
public final class LanguageTest {
    private static final String[] FACE = {
        "int type(long,int)", "int clear()", "int given()", "int proof()", "int wrong()", "int end()",
        "long line(int)", "int value(int,int)", "int lead(int,int)", "long both(int,int,int)", "long with(int,int,int)",
        "long common()", "int follows(int)", "long standing()", "long left(int)", "long rest(long)", "long base(int)",
        "int deep(int,int)", "int needed(int,int)", "int weight(int,int)", "int count(int)", "long trace()"
    };

    private static final int MOST_DEEP = 8;
    /** Of what LANGUAGE.md lists that which the class uses. */
    private static final Set<String> LISTED =
        Set.of("Integer.bitCount(", "Long.bitCount(", "Math.max(", "Math.min(", "word.length(", "word.charAt(");

    public static void main(String[] args) throws Exception {
        Checks c = new Checks("LanguageTest");
        face(c);
        measures(c);
        String source = source();
        words(c, source);
        methods(c, source);
        c.finish();
    }

    private static void face(Checks c) {
        TreeSet<String> open = new TreeSet<>();
        TreeSet<String> openNames = new TreeSet<>();
        TreeSet<String> closedNames = new TreeSet<>();
        for (Method m : NoughtSums.class.getDeclaredMethods()) {
            if (Modifier.isPrivate(m.getModifiers())) {
                closedNames.add(m.getName());
            } else if (!m.isSynthetic()) {
                String kinds = Arrays.toString(m.getParameterTypes()).replaceAll("[\\[\\] ]", "");
                open.add(m.getReturnType() + " " + m.getName() + "(" + kinds + ")");
                openNames.add(m.getName());
            }
        }
        c.due("open methods are the face's " + open, open.equals(new TreeSet<>(Arrays.asList(FACE))) ? 1 : 0, 1);
        closedNames.retainAll(openNames);
        c.due("private methods named as public ones " + closedNames, closedNames.size(), 0);
        TreeSet<String> fields = new TreeSet<>();
        for (Field f : NoughtSums.class.getDeclaredFields()) {
            if (!Modifier.isPrivate(f.getModifiers())) {
                fields.add(f.getName());
            }
        }
        c.due("open fields " + fields, fields.equals(new TreeSet<>(Arrays.asList("BAD", "FULL", "NONE"))) ? 1 : 0, 1);
        Constructor<?>[] made = NoughtSums.class.getDeclaredConstructors();
        c.due("constructors", made.length, 1);
        c.due("the class is public and final", NoughtSums.class.getModifiers(), Modifier.PUBLIC | Modifier.FINAL);
        c.due("BAD", NoughtSums.BAD, -1);
        c.due("FULL", NoughtSums.FULL, -3);
        c.due("NONE", NoughtSums.NONE, -9);
    }

    /** Rules 1, 2, 5, 11: nested classes static and not open, static fields final, few fields and parameters. */
    private static void measures(Checks c) {
        Class<?>[] inside = NoughtSums.class.getDeclaredClasses();
        c.due("some twelve classes", inside.length < 12 ? 1 : 0, 1);
        measure(c, NoughtSums.class);
        for (Class<?> one : inside) {
            int modifiers = one.getModifiers();
            c.due(one + " is static", Modifier.isStatic(modifiers) ? 1 : 0, 1);
            c.due(one + " is open", Modifier.isPublic(modifiers) || Modifier.isProtected(modifiers) ? 1 : 0, 0);
            measure(c, one);
        }
    }

    private static void measure(Checks c, Class<?> one) {
        int fields = 0;
        for (Field f : one.getDeclaredFields()) {
            if (Modifier.isStatic(f.getModifiers())) {
                c.due(f + " is final", Modifier.isFinal(f.getModifiers()) ? 1 : 0, 1);
            } else {
                fields++;
            }
        }
        c.due("fields of " + one + ": " + fields, fields <= 20 ? 1 : 0, 1);
        for (Method m : one.getDeclaredMethods()) {
            c.due("parameters of " + m, m.getParameterCount() <= 7 ? 1 : 0, 1);
        }
    }

    /** The source without its comments. */
    private static String source() throws Exception {
        String source = Files.readString(Path.of("src/main/java/NoughtSums.java"));
        return source.replaceAll("(?s)/\\*.*?\\*/", "").replaceAll("//[^\\n]*", "");
    }

    private static void words(Checks c, String source) {
        Matcher m = Pattern.compile("\\b(throws?|try|catch|synchronized|assert|import|package|System|Random|Thread)\\b"
            + "|->|::|[a-z]Exact\\b").matcher(source);
        while (m.find()) {
            c.due("the source has " + m.group(), 1, 0);
        }
        c.due("the source was read", source.contains("class NoughtSums") ? 1 : 0, 1);
        for (int k = 0; k < source.length(); k++) {
            if (source.charAt(k) > 127) {
                c.due("a sign above 127 at " + k, 1, 0);
            }
        }
    }

    // ---- methods, told apart by their indentation

    /** Rules 4, 8, 11: methods stay short, call what is theirs or listed, and not more than eight deep. */
    private static void methods(Checks c, String source) {
        TreeMap<String, String> bodies = new TreeMap<>();
        Matcher m = Pattern.compile("(?ms)^( {4}| {8})(?:\\w+ )*(\\w+)\\([^)]*\\) \\{\\n(.*?)^\\1\\}$").matcher(source);
        while (m.find()) {
            c.due("methods named " + m.group(2), bodies.put(m.group(2), m.group(3)) == null ? 1 : 2, 1);
            long rows = m.group(3).lines().count() + 2;
            c.due("rows of " + m.group(2) + ": " + rows, rows <= 60 ? 1 : 0, 1);
        }
        found(c, bodies, NoughtSums.class);
        for (Class<?> one : NoughtSums.class.getDeclaredClasses()) {
            found(c, bodies, one);
        }
        for (String name : bodies.keySet()) {
            int deep = deep(c, bodies, name, 1);
            c.due("calls from " + name + " go deep: " + deep, deep <= MOST_DEEP ? 1 : 0, 1);
        }
    }

    private static void found(Checks c, TreeMap<String, String> bodies, Class<?> one) {
        for (Method m : one.getDeclaredMethods()) {
            c.due(m + " was found in the source", m.isSynthetic() || bodies.containsKey(m.getName()) ? 1 : 0, 1);
        }
    }

    /** How many calls stand open at once below this one, with it; the library's own are looked up, and not counted. */
    private static int deep(Checks c, TreeMap<String, String> bodies, String name, int ahead) {
        if (ahead > MOST_DEEP) {
            return 1;
        }
        int below = 0;
        Matcher m = Pattern.compile("(\\b\\w+\\.|\\bnew )?\\b(\\w+)\\(").matcher(bodies.get(name));
        while (m.find()) {
            if (bodies.containsKey(m.group(2))) {
                below = Math.max(below, deep(c, bodies, m.group(2), ahead + 1));
            } else {
                c.due(name + " calls " + m.group(), LISTED.contains(m.group()) ? 1 : 0, 1);
            }
        }
        return 1 + below;
    }
}
