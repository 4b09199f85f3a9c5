import java.io.IOException;
import java.lang.reflect.Method;
import java.lang.reflect.Modifier;
import java.net.URL;
import java.net.URLClassLoader;
import java.nio.file.Files;
import java.nio.file.Path;
import java.util.ArrayList;
import java.util.List;
import java.util.regex.Matcher;
import java.util.regex.Pattern;
import java.util.stream.Collectors;
import java.util.stream.Stream;
import javax.tools.JavaCompiler;
import javax.tools.ToolProvider;

/** README.md says how to use the class and how to run its tests: what it shows is compiled and run, what it lists is there. */
public final class ReadmeTest {
    private static final Path README = Path.of("README.md");
    /** A call shown with its answer: x.call(..); // 3: words. */
    private static final Pattern SHOWN = Pattern.compile("^(x\\..*\\));\\s*// (-?\\d+): .*$");
    private static final Due due = new Due();

    public static void main(String[] args) throws ReflectiveOperationException, IOException {
        String readme = Files.readString(README);
        example(block(readme, "java"));
        calls(readme);
        tests(readme);
        due.end();
    }

    private static String block(String readme, String language) {
        Matcher m = Pattern.compile("```" + language + "\n(.*?)```", Pattern.DOTALL).matcher(readme);
        boolean found = m.find();
        due.holds("README.md has an example in " + language, found);
        return found ? m.group(1) : "";
    }

    /** Compiles the example as it stands and holds each answer that it shows against the class. */
    private static void example(String code) throws ReflectiveOperationException, IOException {
        List<String> calls = new ArrayList<>();
        List<Long> wanted = new ArrayList<>();
        StringBuilder source = new StringBuilder("public final class Shown { public static void run(java.util.List<Long> got) {\n");
        for (String line : code.split("\n")) {
            Matcher m = SHOWN.matcher(line);
            if (m.matches()) {
                calls.add(m.group(1));
                wanted.add(Long.parseLong(m.group(2)));
                source.append("got.add((long) ").append(m.group(1)).append(");\n");
            } else {
                due.holds("an answer is shown of: " + line, !line.startsWith("x."));
                source.append(line).append('\n');
            }
        }
        List<Long> got = run(source.append("} }\n").toString());
        due.holds("the example shows answers", !calls.isEmpty());
        due.is("answers of the example", got.size(), calls.size());
        for (int i = 0; i < Math.min(got.size(), calls.size()); i++) {
            due.is("README.md: " + calls.get(i), got.get(i), wanted.get(i));
        }
    }

    private static List<Long> run(String source) throws ReflectiveOperationException, IOException {
        List<Long> got = new ArrayList<>();
        Path dir = Files.createTempDirectory("readme");
        Path file = dir.resolve("Shown.java");
        Files.writeString(file, source);
        JavaCompiler javac = ToolProvider.getSystemJavaCompiler();
        int failed = javac.run(null, null, null, "-d", dir.toString(), "-cp", System.getProperty("java.class.path"), file.toString());
        due.is("faults of the example that javac tells", failed, 0);
        if (failed == 0) {
            try (URLClassLoader loader = new URLClassLoader(new URL[] {dir.toUri().toURL()})) {
                loader.loadClass("Shown").getMethod("run", List.class).invoke(null, got);
            }
        }
        try (Stream<Path> left = Files.list(dir)) {
            for (Path p : left.collect(Collectors.toList())) {
                Files.delete(p);
            }
        }
        Files.delete(dir);
        return got;
    }

    private static void calls(String readme) {
        for (Method m : TinDucks.class.getDeclaredMethods()) {
            if (Modifier.isPublic(m.getModifiers())) {
                due.holds("README.md tells of " + m.getName(), readme.contains("`" + m.getName() + "("));
            }
        }
    }

    private static void tests(String readme) throws IOException {
        due.holds("README.md says how tests are run", block(readme, "sh").contains(".ci/run"));
        due.holds("the script is there", Files.isExecutable(Path.of(".ci/run")));
        String table = readme.substring(Math.max(0, readme.indexOf("| test |")));
        try (Stream<Path> files = Files.list(Path.of("src/test/java"))) {
            for (Path p : files.collect(Collectors.toList())) {
                String name = p.getFileName().toString().replace(".java", "");
                due.holds("README.md tells of " + name, Pattern.compile("\\b" + name + "\\b").matcher(table).find());
            }
        }
        Matcher named = Pattern.compile("\\b[A-Z]\\w+Test\\b").matcher(table);
        while (named.find()) {
            due.holds(named.group() + " is there", Files.exists(Path.of("src/test/java", named.group() + ".java")));
        }
    }
}
