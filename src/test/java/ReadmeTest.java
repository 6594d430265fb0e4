import java.io.IOException;
import java.lang.reflect.Method;
import java.lang.reflect.Modifier;
import java.net.URL;
import java.net.URLClassLoader;
import java.nio.file.Files;
import java.nio.file.Path;
import java.util.HashSet;
import java.util.Set;
import java.util.regex.Matcher;
import java.util.regex.Pattern;
import javax.tools.ToolProvider;

/** The examples of README.md, compiled as one program: each call answers what stands behind it. Is run from the project's root. */
public final class ReadmeTest {
    private static final Pattern CALL = Pattern.compile("\\s*(x\\.(\\w+)\\(.*\\));\\s*// (-?\\d+|NONE|RANGE|FULL|STATE)\\b.*");

    private static final Check CHECK = new Check();

    private ReadmeTest() {
    }

    /** The program made of README.md's examples tells its answers here. */
    public static void due(String call, long got, long want) {
        CHECK.due(call, got, want);
    }

    public static void main(String[] args) throws Exception {
        StringBuilder helpers = new StringBuilder();
        StringBuilder examples = new StringBuilder();
        Set<String> called = new HashSet<>();
        boolean inJava = false;
        boolean inHelper = false;
        for (String line : Files.readAllLines(Path.of("README.md"))) {
            if (line.startsWith("```")) {
                inJava = line.equals("```java");
                inHelper = false;
            } else if (inJava) {
                inHelper |= line.startsWith("static ");
                (inHelper ? helpers : examples).append(inHelper ? line : asked(line, called)).append('\n');
            }
        }
        run("public final class Readme {\n" + helpers + "public static void run() {\n" + examples + "}\n}\n");
        called.addAll(Set.of("feed", "end"));   // by the helper
        for (Method m : TinString.class.getDeclaredMethods()) {
            if (Modifier.isPublic(m.getModifiers())) {
                CHECK.due("README.md shows " + m.getName(), called.contains(m.getName()) ? 1 : 0, 1);
            }
        }
        CHECK.end();
    }

    /** An example that tells what it answers, or another line as it is. */
    private static String asked(String line, Set<String> called) {
        Matcher m = CALL.matcher(line);
        if (!m.matches()) {
            CHECK.due("an answer stands behind [" + line + "]", line.matches("\\s*x\\..*") ? 0 : 1, 1);
            return line;
        }
        called.add(m.group(2));
        String want = Character.isUpperCase(m.group(3).charAt(0)) ? "TinString." + m.group(3) : m.group(3);
        return "ReadmeTest.due(\"README.md: " + m.group(1) + "\", " + m.group(1) + ", " + want + ");";
    }

    private static void run(String program) throws Exception {
        Path dir = Files.createTempDirectory("readme");
        Path source = dir.resolve("Readme.java");
        try {
            Files.writeString(source, program);
            int bad = ToolProvider.getSystemJavaCompiler().run(null, null, null, "-encoding", "UTF-8", "-proc:none",
                "-cp", System.getProperty("java.class.path"), "-d", dir.toString(), source.toString());
            CHECK.due("README.md compiles", bad, 0);
            if (bad == 0) {
                try (URLClassLoader loader = new URLClassLoader(new URL[] {dir.toUri().toURL()})) {
                    loader.loadClass("Readme").getMethod("run").invoke(null);
                }
            }
        } finally {
            remove(dir);
        }
    }

    private static void remove(Path dir) throws IOException {
        try (var files = Files.list(dir)) {
            for (Path file : files.toList()) {
                Files.delete(file);
            }
        }
        Files.delete(dir);
    }
}
