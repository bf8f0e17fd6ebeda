import java.io.IOException;
import java.lang.reflect.Method;
import java.lang.reflect.Modifier;
import java.net.URL;
import java.net.URLClassLoader;
import java.nio.file.Files;
import java.nio.file.Path;
import java.util.ArrayList;
import java.util.List;
import java.util.regex.Matcher;
import java.util.regex.Pattern;
import javax.tools.ToolProvider;

/** The example of README.md answers what stands behind its lines; its table has every call. */
public final class ReadmeTests {
    private static final Path README = Path.of("README.md");
    private static final Pattern JAVA = Pattern.compile("(?s)```java\n(.*?)```");
    private static final Pattern ANSWER = Pattern.compile("(int|long) (\\w+) = (.*); +// (-?\\d+)");

    private ReadmeTests() {
    }

    public static void main(String[] args) throws Exception {
        String readme = Files.readString(README);
        table(readme);
        example(readme);
        Check.end();
    }

    private static void table(String readme) {
        for (Method method : RankedSearch.class.getDeclaredMethods()) {
            if (Modifier.isPublic(method.getModifiers())) {
                String row = rowOf(readme, method.getName());
                Check.due("README tells of " + method.getName(), row.isEmpty(), false);
                Check.due("what it throws", thrownIn(row), thrownBy(method));
            }
        }
    }

    private static String rowOf(String readme, String name) {
        for (String line : readme.split("\n")) {
            if (line.startsWith("| `" + name + "(")) {
                return line;
            }
        }
        return "";
    }

    private static String thrownIn(String row) {
        Matcher matcher = Pattern.compile("`(\\w+Exception)`").matcher(row);
        return matcher.find() ? matcher.group(1) : "nothing";
    }

    private static String thrownBy(Method method) {
        Class<?>[] thrown = method.getExceptionTypes();
        return thrown.length == 0 ? "nothing" : thrown[0].getSimpleName();
    }

    /** The blocks of Java in the README: the first is a method, the second uses it. */
    private static void example(String readme) throws Exception {
        List<String> blocks = new ArrayList<>();
        Matcher matcher = JAVA.matcher(readme);
        while (matcher.find()) {
            blocks.add(matcher.group(1));
        }
        Check.due("blocks of Java", blocks.size(), 2);
        if (blocks.size() == 2) {
            run(program(blocks.get(0), checked(blocks.get(1))));
        }
    }

    /** The lines, and behind each one that has an answer a check of it. */
    private static String checked(String lines) {
        StringBuilder code = new StringBuilder();
        int answers = 0;
        for (String line : lines.split("\n")) {
            code.append(line).append('\n');
            Matcher matcher = ANSWER.matcher(line);
            if (matcher.matches()) {
                answers++;
                String call = "\"README: " + matcher.group(3) + "\"";
                code.append("due(" + call + ", " + matcher.group(2) + ", " + matcher.group(4) + ");\n");
            }
        }
        Check.due("answers in the example", answers, lines.split("// ", -1).length - 1);
        Check.due("there are some", answers > 0, true);
        return code.toString();
    }

    private static String program(String method, String lines) {
        return "public final class Example {\n"
            + "public static final java.util.ArrayList<Object[]> SEEN = new java.util.ArrayList<>();\n"
            + "static void due(String what, long got, long want) { SEEN.add(new Object[] {what, got, want}); }\n"
            + method + "public static void run() {\n" + lines + "}\n}\n";
    }

    private static void run(String source) throws Exception {
        Path folder = Files.createTempDirectory("readme");
        Path file = folder.resolve("Example.java");
        try {
            Files.writeString(file, source);
            String[] arguments = {"-cp", System.getProperty("java.class.path"), "-d", folder.toString(), file.toString()};
            int code = ToolProvider.getSystemJavaCompiler().run(null, null, null, arguments);
            Check.due("the example compiles", code, 0);
            if (code == 0) {
                load(folder);
            }
        } finally {
            remove(folder);
        }
    }

    private static void load(Path folder) throws Exception {
        try (URLClassLoader loader = new URLClassLoader(new URL[] {folder.toUri().toURL()})) {
            Class<?> example = loader.loadClass("Example");
            example.getMethod("run").invoke(null);
            for (Object seen : (List<?>) example.getField("SEEN").get(null)) {
                Object[] row = (Object[]) seen;
                Check.due((String) row[0], (Long) row[1], (Long) row[2]);
            }
        }
    }

    private static void remove(Path folder) throws IOException {
        for (String name : new String[] {"Example.java", "Example.class"}) {
            Files.deleteIfExists(folder.resolve(name));
        }
        Files.delete(folder);
    }
}
