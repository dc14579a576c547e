import java.io.IOException;
import java.lang.reflect.Method;
import java.lang.reflect.Modifier;
import java.net.URL;
import java.net.URLClassLoader;
import java.nio.file.Files;
import java.nio.file.Path;
import java.util.ArrayList;
import java.util.List;
import java.util.TreeSet;
import java.util.function.LongSupplier;
import java.util.regex.Matcher;
import java.util.regex.Pattern;
import javax.tools.JavaCompiler;
import javax.tools.ToolProvider;

/** What README.md says is true: its example answers as it says, and the tests that it names are those there are. */
public final class ReadmeTest {
    private static final Checks C = new Checks("ReadmeTest");
    private static final String MAKES = "NoughtSums x = new NoughtSums();";
    /** A call, and behind it its answer, with more words behind a colon or none. */
    private static final Pattern CALL =
        Pattern.compile("(x\\.(\\w+)\\((.*)\\));\\s+// (-?[0-9]+|0x[0-9A-F]{16})(: .*)?");
    private static final Pattern TYPED = Pattern.compile("0x([0-9A-F]+)L, ([0-9]+)");
    private static final Pattern QUOTED = Pattern.compile(": \"(.*)\"");
    private static final Pattern NAMED = Pattern.compile("`(\\w+Test)`");

    public static void main(String[] args) throws Exception {
        String readme = Files.readString(Path.of("README.md"));
        exampleIsTrue(example(readme));
        testsAreNamed(readme);
        commandsAreThere(readme);
        C.finish();
    }

    // ---- the example

    private static List<String> example(String readme) {
        List<String> rows = new ArrayList<>();
        boolean inside = false;
        int blocks = 0;
        for (String row : readme.split("\n")) {
            if (row.startsWith("```")) {
                inside = row.equals("```java");
                blocks += inside ? 1 : 0;
            } else if (inside) {
                rows.add(row);
            }
        }
        C.due("examples in README.md", blocks, 1);
        return rows;
    }

    private static void exampleIsTrue(List<String> rows) throws Exception {
        TreeSet<String> shown = new TreeSet<>();
        List<Matcher> calls = new ArrayList<>();
        for (String row : rows) {
            Matcher m = CALL.matcher(row);
            if (m.matches()) {
                calls.add(m);
                shown.add(m.group(2));
                typedAsQuoted(m);
            } else {
                C.due("a row of the example without an answer: " + row,
                    row.isBlank() || row.startsWith("//") || row.equals(MAKES) ? 1 : 0, 1);
            }
        }
        C.due("rows that make the object", rows.indexOf(MAKES) == 0 ? 1 : 0, 1);
        for (Method m : NoughtSums.class.getDeclaredMethods()) {
            if (Modifier.isPublic(m.getModifiers())) {
                C.due(m.getName() + " is in the example", shown.contains(m.getName()) ? 1 : 0, 1);
            }
        }
        C.due("calls are within an object's 512", calls.size() <= 512 ? 1 : 0, 1);
        answered(calls);
    }

    /** Bytes in hexadecimal are hard to read: what is quoted behind them must be what they are. */
    private static void typedAsQuoted(Matcher call) {
        Matcher typed = TYPED.matcher(call.group(3));
        Matcher quoted = QUOTED.matcher(call.group(5) == null ? "" : call.group(5));
        if (!call.group(2).equals("type") || !quoted.matches()) {
            return;
        }
        C.due("bytes are told as " + call.group(), typed.matches() ? 1 : 0, 1);
        if (typed.matches()) {
            StringBuilder bytes = new StringBuilder();
            for (char c : quoted.group(1).toCharArray()) {
                bytes.append(String.format("%02X", (int) c));
            }
            C.same(call.group(), bytes.toString(), typed.group(1));
            C.due("bytes of " + call.group(), Long.parseLong(typed.group(2)), quoted.group(1).length());
        }
    }

    /** The calls are compiled as they stand, each behind those ahead of it, and asked in their order. */
    private static void answered(List<Matcher> calls) throws Exception {
        StringBuilder source = new StringBuilder("public final class Example implements java.util.function.LongSupplier {\n");
        source.append("private final ").append(MAKES).append("\nprivate int at = 0;\n");
        source.append("public long getAsLong() {\nswitch (at++) {\n");
        for (int k = 0; k < calls.size(); k++) {
            source.append("case ").append(k).append(": return ").append(calls.get(k).group(1)).append(";\n");
        }
        source.append("default: throw new IllegalStateException();\n}\n}\n}\n");
        Path place = Files.createTempDirectory("readme");
        try {
            LongSupplier example = compiled(place, source.toString());
            for (Matcher call : calls) {
                if (example != null) {
                    C.due(call.group(1), example.getAsLong(), Long.decode(call.group(4)));
                }
            }
        } finally {
            removed(place);
        }
    }

    private static LongSupplier compiled(Path place, String source) throws Exception {
        Path file = Files.writeString(place.resolve("Example.java"), source);
        JavaCompiler compiler = ToolProvider.getSystemJavaCompiler();
        String[] how = {"-cp", System.getProperty("java.class.path"), "-d", place.toString(), file.toString()};
        boolean compiles = compiler != null && compiler.run(null, System.out, System.out, how) == 0;
        C.due("the example compiles", compiles ? 1 : 0, 1);
        if (!compiles) {
            return null;
        }
        try (URLClassLoader loader = new URLClassLoader(new URL[] {place.toUri().toURL()})) {
            return (LongSupplier) loader.loadClass("Example").getDeclaredConstructor().newInstance();
        }
    }

    private static void removed(Path place) throws IOException {
        Files.deleteIfExists(place.resolve("Example.java"));
        Files.deleteIfExists(place.resolve("Example.class"));
        Files.deleteIfExists(place);
    }

    // ---- the tests

    private static void testsAreNamed(String readme) throws IOException {
        TreeSet<String> there = new TreeSet<>();
        try (var files = Files.list(Path.of("src/test/java"))) {
            files.map(f -> f.getFileName().toString()).filter(f -> f.endsWith("Test.java"))
                .forEach(f -> there.add(f.substring(0, f.length() - ".java".length())));
        }
        TreeSet<String> named = new TreeSet<>();
        Matcher m = NAMED.matcher(readme);
        while (m.find()) {
            named.add(m.group(1));
        }
        for (String name : named) {
            C.due(name + " is there", there.contains(name) ? 1 : 0, 1);
        }
        int promises = 0;
        for (String name : there) {
            if (name.matches("Promise[0-9]{2}\\w+")) {
                promises++;
                C.due("promises have a test each: " + name, Long.parseLong(name.substring(7, 9)), promises);
            } else {
                C.due(name + " is named in README.md", named.contains(name) ? 1 : 0, 1);
            }
        }
        C.due("tests of promises", promises, 23);
        C.due("the first is named", named.contains("Promise01NewObjectTest") ? 1 : 0, 1);
        C.due("the last is named", named.contains("Promise23TraceTest") ? 1 : 0, 1);
    }

    private static void commandsAreThere(String readme) {
        C.due("README.md says how to run the tests", readme.contains("\n    .ci/run\n") ? 1 : 0, 1);
        C.due(".ci/run can be run", Files.isExecutable(Path.of(".ci/run")) ? 1 : 0, 1);
    }
}
