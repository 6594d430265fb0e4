import java.io.IOException;
import java.nio.file.Files;
import java.nio.file.Path;
import java.util.Map;
import java.util.TreeMap;

/**
 * What the tests of boundary cases share. Each quotes the words of ../shared/DOC.md that it holds the class to;
 * end() tells the parts of the terms and promises that none has quoted. Is run from the project's root.
 */
final class Edges {
    static final int NONE = TinString.NONE, RANGE = TinString.RANGE, FULL = TinString.FULL, STATE = TinString.STATE, OFF = -2000000000;
    static final int LEAST = Integer.MIN_VALUE, MOST = Integer.MAX_VALUE;

    private static final Path DOC = Path.of("../shared/DOC.md");

    private final Check check = new Check();
    private final Map<String, String> sections = new TreeMap<>();
    private final Map<String, boolean[]> quoted = new TreeMap<>();
    private String now = "";

    Edges() throws IOException {
        String section = "";
        for (String line : Files.readAllLines(DOC)) {
            section = sectionOf(line, section);
            if (!section.isEmpty() && !line.startsWith("#") && !line.startsWith("```")) {
                sections.merge(section, plain(section.matches("\\d+") ? line.replaceFirst("^`[^`]*`: ", "") : line), (a, b) -> plain(a + " " + b));
            }
        }
        sections.forEach((name, text) -> quoted.put(name, new boolean[text.length()]));
    }

    /** "1" to "40" for promises, "I" to "V" for terms, "constants", "use"; nothing for what says nothing of answers. */
    private static String sectionOf(String line, String before) {
        if (line.startsWith("## Promise ")) {
            return line.substring(11, line.indexOf(':'));
        }
        if (line.startsWith("An object is used for")) {
            return "use";
        }
        if (line.matches("(I|II|III|IV|V)\\. .*")) {
            return line.substring(0, line.indexOf('.'));
        }
        if (line.startsWith("The constants:")) {
            return "constants";
        }
        return line.startsWith("#") || line.startsWith("Ahead of the calls") ? "" : before;
    }

    private static String plain(String text) {
        return text.replaceAll("\\s+", " ").trim();
    }

    /** What follows holds the class to these words of a section; pieces of them are parted by " .. ". */
    void says(String section, String words) {
        now = section + ": " + words;
        String text = sections.getOrDefault(section, "");
        for (String piece : words.split(" \\.\\.\\. ")) {
            int at = text.indexOf(plain(piece));
            check.due("the document says in " + section + " [" + piece + "]", at >= 0 ? 1 : 0, 1);
            for (int i = 0; at >= 0 && i < plain(piece).length(); i++) {
                quoted.get(section)[at + i] = true;
            }
        }
    }

    void due(String call, long got, long want) {
        check.due("(" + now + ") " + call, got, want);
    }

    void must(String what, boolean holds) {
        due(what, holds ? 1 : 0, 1);
    }

    void end() {
        must("forty promises, five terms, two more", sections.size() == 47);
        sections.forEach(this::parts);
        check.end();
    }

    /** Each part of a section, up to the next full stop, semicolon or colon, is quoted at least in part. */
    private void parts(String section, String text) {
        int from = 0;
        for (String part : text.split("(?<=[.;:]) ")) {
            boolean any = !part.matches(".*[a-z].*");
            for (int i = 0; i < part.length(); i++) {
                any |= quoted.get(section)[from + i];
            }
            check.due("a test quotes, of " + section + " [" + part + "]", any ? 1 : 0, 1);
            from += part.length() + 1;
        }
    }

    // ---- what the document's streets are looked at by

    void good(String text, int clauses) {
        TinString x = new TinString();
        due("street of [" + text + "]", Check.street(x, text), clauses);
        due("fault(0) of [" + text + "]", x.fault(0), 0);
        due("fault(1) of [" + text + "]", x.fault(1), NONE);
        due("THE TAPE behind [" + text + "]", x.count(6), 0);
    }

    void fault(String text, int kind, int place) {
        TinString x = new TinString();
        due("street of [" + text + "]", Check.street(x, text), NONE);
        due("fault(0) of [" + text + "]", x.fault(0), kind);
        due("fault(1) of [" + text + "]", x.fault(1), place);
        due("THE TAPE behind [" + text + "]", x.count(6), 0);
    }

    /** So many clauses, numbered: # stands for a letter, % for a digit. */
    static String many(String clause, int n) {
        StringBuilder b = new StringBuilder();
        for (int i = 0; i < n; i++) {
            b.append(clause.replace('#', (char) ('a' + i)).replace('%', (char) ('0' + i)));
        }
        return b.toString();
    }
}
