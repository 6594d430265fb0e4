import java.io.IOException;
import java.nio.file.Files;
import java.nio.file.Path;
import java.util.ArrayList;
import java.util.LinkedHashSet;
import java.util.List;
import java.util.Set;
import java.util.concurrent.ExecutorService;
import java.util.concurrent.Executors;
import java.util.concurrent.TimeUnit;
import java.util.concurrent.atomic.AtomicInteger;
import java.util.regex.Matcher;
import java.util.regex.Pattern;
import javax.tools.JavaCompiler;
import javax.tools.ToolProvider;

/**
 * Changes the class in one place at a time, and tells which changes no test finds. Is run from the project's root, by
 * hand (it takes some minutes): java src/tools/java/Mutate.java EdgesTest [another test ..]
 */
public final class Mutate {
    private record Change(int at, int end, String by) { }

    private static final Path SOURCE = Path.of("src/main/java/TinString.java");
    private static final Path TESTS = Path.of("src/test/java");
    private static final int SECONDS = 60;

    // What is sought, and what it becomes, each by itself.
    private static final String[][] SWAPS = {
        {"(?<![<>=!+\\-*/&|])<(?![<=])", "<="}, {"<=", "<"}, {"(?<![<>=!\\-])>(?![>=])", ">="}, {"(?<!>)>=", ">"}, {"==", "!="}, {"!=", "=="},
        {"&&", "||"}, {"\\|\\|", "&&"}, {" \\+ ", " - "}, {" - ", " + "}, {" \\* ", " + "}, {" / ", " * "}, {" % ", " / "}, {"\\+\\+", "--"},
        {"\\+=", "-="}, {"-=", "+="}, {"\\|=", "&="}, {"<<", ">>"}, {">>(?!>)", "<<"}, {"Math\\.min", "Math.max"}, {"Math\\.max", "Math.min"},
        {"\\btrue\\b", "false"}, {"\\bfalse\\b", "true"}, {"return (NONE|FULL|STATE);", "return RANGE;"}, {"return RANGE;", "return NONE;"},
        {"\\bbreak;", ""}, {"\\bcontinue;", ""}, {"(?<=\\n {8,20})[a-zA-Z.]+(\\[[^\\n;]*\\])? [-+|]?= [^\\n;]+;", ""},
        {"(?<=\\n {8,20})[a-zA-Z.]+\\([^\\n;]*\\);", ""}, {"\\(long\\) ", ""}};

    private Mutate() {
    }

    /** The source with blanks for comments and texts, each sign in its place. */
    private static String bare(String source) {
        return Pattern.compile("/\\*.*?\\*/|//[^\\n]*|\"[^\"\\n]*\"|'[^'\\n]*'", Pattern.DOTALL).matcher(source)
            .replaceAll(r -> r.group().replaceAll("[^\\n]", " "));
    }

    private static List<Change> changes(String source) {
        String bare = bare(source);
        Set<Change> all = new LinkedHashSet<>();
        for (String[] swap : SWAPS) {
            Matcher m = Pattern.compile(swap[0]).matcher(bare);
            while (m.find()) {
                all.add(new Change(m.start(), m.end(), swap[1]));
            }
        }
        Matcher m = Pattern.compile("(?<![\\w.])\\d+(?![\\w.])").matcher(bare);
        while (m.find()) {
            long n = Long.parseLong(m.group());
            all.add(new Change(m.start(), m.end(), String.valueOf(n + 1)));
            all.add(new Change(m.start(), m.end(), "(" + (n - 1) + ")"));
        }
        return new ArrayList<>(all);
    }

    private static boolean compiles(JavaCompiler javac, Path source, Path to, Path with) {
        java.io.OutputStream none = java.io.OutputStream.nullOutputStream();
        return javac.run(null, none, none, "-nowarn", "-proc:none", "-d", to.toString(), "-cp", with.toString(), source.toString()) == 0;
    }

    /** Whether all of the tests hold; one that takes too long doesn't. */
    private static boolean holds(Path classes, Path tests, String[] names) throws IOException, InterruptedException {
        for (String name : names) {
            Process p = new ProcessBuilder("java", "-XX:+UseSerialGC", "-XX:TieredStopAtLevel=1", "-cp", classes + ":" + tests, name)
                .redirectErrorStream(true).redirectOutput(ProcessBuilder.Redirect.DISCARD).start();
            boolean ended = p.waitFor(SECONDS, TimeUnit.SECONDS);
            if (!ended) {
                p.destroyForcibly();
            }
            if (!ended || p.exitValue() != 0) {
                return false;
            }
        }
        return true;
    }

    private static void delete(Path dir) throws IOException {
        try (var files = Files.walk(dir)) {
            for (Path f : files.sorted(java.util.Comparator.reverseOrder()).toList()) {
                Files.delete(f);
            }
        }
    }

    private static String where(String source, Change c) {
        int line = 1 + (int) source.substring(0, c.at).chars().filter(s -> s == '\n').count();
        int from = source.lastIndexOf('\n', c.at) + 1;
        int to = source.indexOf('\n', c.at);
        return line + ": " + source.substring(from, to).trim() + "   [" + source.substring(c.at, c.end) + "] -> [" + c.by + "] at " + (c.at - from);
    }

    public static void main(String[] names) throws Exception {
        String source = Files.readString(SOURCE);
        JavaCompiler javac = ToolProvider.getSystemJavaCompiler();
        Path root = Files.createTempDirectory("mutate");
        Path tests = Files.createDirectory(root.resolve("tests"));
        List<String> command = new ArrayList<>(List.of("-nowarn", "-d", tests.toString(), SOURCE.toString()));
        try (var files = Files.list(TESTS)) {
            files.forEach(f -> command.add(f.toString()));
        }
        if (javac.run(null, null, null, command.toArray(new String[0])) != 0 || names.length == 0 || !holds(tests, tests, names)) {
            System.out.println("the tests don't hold as it is");
            System.exit(1);
        }
        List<Change> all = changes(source);
        AtomicInteger left = new AtomicInteger();
        AtomicInteger none = new AtomicInteger();
        ExecutorService pool = Executors.newFixedThreadPool(Runtime.getRuntime().availableProcessors());
        for (int i = 0; i < all.size(); i++) {
            Change c = all.get(i);
            Path dir = root.resolve("m" + i);
            pool.submit(() -> {
                try {
                    Files.createDirectories(dir.resolve("out"));
                    Path file = dir.resolve("TinString.java");
                    Files.writeString(file, source.substring(0, c.at) + c.by + source.substring(c.end));
                    if (!compiles(javac, file, dir.resolve("out"), dir)) {
                        none.incrementAndGet();
                    } else if (holds(dir.resolve("out"), tests, names)) {
                        left.incrementAndGet();
                        System.out.println(where(source, c));
                    }
                    delete(dir);
                } catch (IOException | InterruptedException e) {
                    System.out.println(where(source, c) + " could not be looked at: " + e);
                }
            });
        }
        pool.shutdown();
        pool.awaitTermination(10, TimeUnit.HOURS);
        System.out.println(all.size() + " changes, " + none + " of them no Java, " + left + " that no test found");
        delete(root);
    }
}
