import java.io.IOException;
import java.lang.reflect.Method;
import java.lang.reflect.Modifier;
import java.net.URL;
import java.net.URLClassLoader;
import java.nio.file.Files;
import java.nio.file.Path;
import java.util.ArrayList;
import java.util.List;
import java.util.Set;
import java.util.TreeSet;
import java.util.regex.Matcher;
import java.util.regex.Pattern;
import java.util.stream.Stream;
import javax.tools.JavaCompiler;
import javax.tools.ToolProvider;

/** What README.md says: its example is run as it stands there, and it names every call and every test. */
public final class ReadmeTest {
    private static final Path README = Path.of("README.md");
    private static final Path TESTS = Path.of("src/test/java");
    private static final String ORDER = "feed read rule table place zone time typeAt type letter leap at name clock seconds"
            + " find found next last stretch write out again told row atomic instant isLeap";
    private static final Pattern ANSWERED =
            Pattern.compile("(z\\.(\\w+)\\(.*\\));\\s+// (-?\\d+|true|false|NEVER|NONE|throws \\w+)(: .+)?");
    private static final Pattern ROW = Pattern.compile("\\| (\\d+) \\| `(\\w+) (\\w+)\\(([^)]*)\\)` \\| .+ \\| ([IAS ]*)\\|");

    public static void main(String[] args) throws Exception {
        List<String> lines = Files.readAllLines(README);
        example(codeOf(lines));
        calls(lines);
        tests(lines);
        Kit.end();
    }

    /** The lines of all blocks of Java, one behind the other: they are one program. */
    private static List<String> codeOf(List<String> lines) {
        List<String> code = new ArrayList<>();
        boolean inside = false;
        for (String line : lines) {
            if (line.startsWith("```")) {
                inside = line.equals("```java");
            } else if (inside) {
                code.add(line);
            }
        }
        return code;
    }

    private static void example(List<String> code) throws Exception {
        List<String> calls = new ArrayList<>();
        List<String> answers = new ArrayList<>();
        Set<String> names = new TreeSet<>();
        StringBuilder body = new StringBuilder();
        for (String line : code) {
            Matcher m = ANSWERED.matcher(line);
            if (m.matches()) {
                calls.add(m.group(1));
                names.add(m.group(2));
                answers.add(m.group(3));
                body.append("try { got.add(String.valueOf(").append(m.group(1)).append(")); }")
                        .append(" catch (RuntimeException e) { got.add(\"throws \" + e.getClass().getSimpleName()); }\n");
            } else {
                Kit.due("the call '" + line + "' tells its answer", line.startsWith("z."), false);
                body.append(line).append('\n');
            }
        }
        List<?> got = run(body.toString());
        Kit.due("how many calls the example has", got.size(), calls.size());
        for (int i = 0; i < calls.size() && i < got.size(); i++) {
            Kit.due("README.md, " + calls.get(i), String.valueOf(got.get(i)), number(answers.get(i)));
        }
        for (String name : ORDER.split(" ")) {
            Kit.due("the example calls " + name, names.contains(name), true);
        }
    }

    private static String number(String answer) {
        switch (answer) {
            case "NEVER": return String.valueOf(ZoneFiles.NEVER);
            case "NONE": return String.valueOf(ZoneFiles.NONE);
            default: return answer;
        }
    }

    /** Compiles and runs the body of a method; answers what it gathered. */
    private static List<?> run(String body) throws Exception {
        Path build = Files.createTempDirectory("readme");
        try {
            Path source = build.resolve("ReadmeExample.java");
            Files.writeString(source, "public final class ReadmeExample {\n"
                    + "public static java.util.List<String> run() {\n"
                    + "java.util.List<String> got = new java.util.ArrayList<>();\n" + body + "return got;\n}\n}\n");
            JavaCompiler compiler = ToolProvider.getSystemJavaCompiler();
            int rc = compiler.run(null, null, null, "-nowarn", "-cp", System.getProperty("java.class.path"),
                    "-d", build.toString(), source.toString());
            Kit.due("README.md's example compiles", rc, 0);
            if (rc != 0) {
                return List.of();
            }
            try (URLClassLoader loader = new URLClassLoader(new URL[] {build.toUri().toURL()})) {
                return (List<?>) loader.loadClass("ReadmeExample").getMethod("run").invoke(null);
            }
        } finally {
            remove(build);
        }
    }

    private static void remove(Path directory) throws IOException {
        try (Stream<Path> files = Files.list(directory)) {
            for (Path file : (Iterable<Path>) files::iterator) {
                Files.delete(file);
            }
        }
        Files.delete(directory);
    }

    private static void calls(List<String> lines) {
        StringBuilder order = new StringBuilder();
        int promise = 1;
        for (String line : lines) {
            Matcher m = ROW.matcher(line);
            if (m.matches()) {
                promise++;
                Kit.due("the promise of " + m.group(3), m.group(1), String.valueOf(promise));
                order.append(order.length() == 0 ? "" : " ").append(m.group(3));
                Kit.due("README.md's call", m.group(2) + " " + m.group(3) + "(" + typesOf(m.group(4)) + ") " + m.group(5).trim(),
                        face(m.group(3)));
            }
        }
        Kit.due("the calls in their order", order.toString(), ORDER);
    }

    /** 'int n, long octets' without its names. */
    private static String typesOf(String parameters) {
        return parameters.replaceAll(" \\w+(, |$)", "$1");
    }

    private static String face(String name) {
        for (Method m : ZoneFiles.class.getDeclaredMethods()) {
            if (Modifier.isPublic(m.getModifiers()) && m.getName().equals(name)) {
                List<String> types = new ArrayList<>();
                for (Class<?> c : m.getParameterTypes()) {
                    types.add(c.getSimpleName());
                }
                List<String> thrown = new ArrayList<>();
                for (Class<?> c : m.getExceptionTypes()) {
                    thrown.add(c == Kit.INDEX ? "I" : c == Kit.ARGUMENT ? "A" : "S");
                }
                return m.getReturnType().getSimpleName() + " " + name + "(" + String.join(", ", types) + ") "
                        + String.join(" ", thrown);
            }
        }
        return "there is none";
    }

    private static void tests(List<String> lines) throws IOException {
        Set<String> named = new TreeSet<>();
        for (String line : lines) {
            Matcher m = Pattern.compile("\\| (\\w+Test) \\|.*").matcher(line);
            if (m.matches()) {
                named.add(m.group(1));
            }
        }
        Set<String> there = new TreeSet<>();
        try (Stream<Path> files = Files.list(TESTS)) {
            for (Path file : (Iterable<Path>) files::iterator) {
                String name = file.getFileName().toString();
                if (name.endsWith("Test.java")) {
                    there.add(name.substring(0, name.length() - 5));
                }
            }
        }
        Kit.due("the tests that README.md names", named.toString(), there.toString());
    }
}
