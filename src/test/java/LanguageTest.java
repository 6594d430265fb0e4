import java.lang.reflect.Field;
import java.lang.reflect.Method;
import java.lang.reflect.Modifier;
import java.nio.file.Files;
import java.nio.file.Path;
import java.util.Arrays;
import java.util.Set;
import java.util.TreeSet;
import java.util.regex.Matcher;
import java.util.regex.Pattern;

/** The rules of ../shared/LANGUAGE.md, as far as they can be looked at from outside. Is run from the project's root. */
public final class LanguageTest {
    private static final Check c = new Check();

    private static final String FACE = "feed(int,int,int,int,int)int end(int)int street()int fault(int)int told(int)int band(int,int,int)int "
        + "line(int,int,int,int)int bend(int)int tie(int)int straighten()int bears(int)int through(int,int)int share(int,int,int)int "
        + "level(int,int)int table(int,int)int among(int,int,int)int longest(int,int,int)int best(int)int bestLoop(int)int list(int)int "
        + "said(int,int)int stretch(int)int cell(int,int,int)int send(int,int)int tick(int)int goes(int,int)int out(int)long keep(int)int "
        + "take(int)int yards(int,int)int wish(int,int)int least(int,int)int taps()int tapRow(int,int)int write(int,int,int)int "
        + "right(int,int,int)int fit(int,int)int listened(int,int,int)int count(int)int";

    private static void must(String what, boolean holds) {
        c.due(what, holds ? 1 : 0, 1);
    }

    private static String shape(Method m) {
        StringBuilder b = new StringBuilder(m.getName()).append('(');
        for (Class<?> p : m.getParameterTypes()) {
            b.append(b.charAt(b.length() - 1) == '(' ? "" : ",").append(p.getName());
        }
        return b.append(')').append(m.getReturnType().getName()).toString();
    }

    private static void face() {
        Set<String> got = new TreeSet<>();
        Set<String> names = new TreeSet<>();
        for (Method m : TinString.class.getDeclaredMethods()) {
            if (!Modifier.isPrivate(m.getModifiers())) {
                must(m + " is public and no static one", Modifier.isPublic(m.getModifiers()) && !Modifier.isStatic(m.getModifiers()));
                got.add(shape(m));
                names.add(m.getName());
            }
        }
        must("the face's methods: " + got, got.equals(new TreeSet<>(Arrays.asList(FACE.split(" ")))));
        must("the class is public and final", Modifier.isPublic(TinString.class.getModifiers()) && Modifier.isFinal(TinString.class.getModifiers()));
        must("one constructor", TinString.class.getDeclaredConstructors().length == 1 && TinString.class.getConstructors().length == 1);
        Set<String> constants = new TreeSet<>();
        for (Field f : TinString.class.getDeclaredFields()) {
            if (!Modifier.isPrivate(f.getModifiers())) {
                must(f + " is a constant", f.getModifiers() == (Modifier.PUBLIC | Modifier.STATIC | Modifier.FINAL) && f.getType() == int.class);
                constants.add(f.getName());
            }
        }
        must("the constants: " + constants, constants.equals(Set.of("NONE", "RANGE", "FULL", "STATE")));
        Class<?>[] inside = TinString.class.getDeclaredClasses();
        must("twelve classes at most", inside.length < 12);
        kept(TinString.class, names);
        for (Class<?> k : inside) {
            must(k + " is static", Modifier.isStatic(k.getModifiers()) && !Modifier.isPublic(k.getModifiers()) && !Modifier.isProtected(k.getModifiers()));
            must(k + " has no class of its own", k.getDeclaredClasses().length == 0);
            kept(k, names);
        }
    }

    private static void kept(Class<?> k, Set<String> names) {
        int fields = 0;
        for (Field f : k.getDeclaredFields()) {
            if (Modifier.isStatic(f.getModifiers())) {
                must(f + " is a constant", Modifier.isFinal(f.getModifiers())
                    && Set.of("int", "long", "boolean", "char", "String", "int[]", "long[]", "char[]", "byte[]").contains(f.getType().getSimpleName()));
            } else {
                fields++;
            }
        }
        must(k + " has " + fields + " fields", fields <= 20);
        for (Method m : k.getDeclaredMethods()) {
            must(m + " bears a name of the face", k == TinString.class && !Modifier.isPrivate(m.getModifiers()) || !names.contains(m.getName()));
            must(m + " takes too much", m.getParameterCount() <= 7);
            must(m + " is made by the compiler", !m.isSynthetic());
        }
    }

    private static String bare(String source) {
        return Pattern.compile("/\\*.*?\\*/|//[^\\n]*|\"[^\"\\n]*\"|'[^'\\n]*'", Pattern.DOTALL).matcher(source).replaceAll(r -> r.group().replaceAll("[^\\n]", " "));
    }

    private static void words(String source, String bare) {
        for (char sign : source.toCharArray()) {
            if (sign > 126 || sign < 32 && sign != '\n') {
                must("sign " + (int) sign, false);
            }
        }
        String[] never = {"throw", "throws", "try", "catch", "finally", "synchronized", "assert", "import", "package", "volatile", "transient",
            "native", "Object", "Exception", "Error", "System\\s*\\.\\s*(?!arraycopy)\\w+", "Thread", "Random", "\\w+Exact", "var", "Double", "Float",
            "Character", "Byte", "Short", "Boolean", "this", "super", "extends", "yield", "equals", "hashCode", "toString", "float", "double"};
        for (String w : never) {
            Matcher m = Pattern.compile("\\b(" + w + ")\\b").matcher(bare);
            must("there is a " + w, !m.find());
        }
        must("a lambda or a method reference", !bare.contains("->") && !bare.contains("::"));
        must("a block that is static", !Pattern.compile("static\\s*\\{").matcher(bare).find());
        must("an endless loop", !Pattern.compile("while\\s*\\(\\s*true|for\\s*\\(\\s*;").matcher(bare).find());
    }

    private static void lengths(String bare) {
        String[] lines = bare.split("\n");
        for (int i = 0; i < lines.length; i++) {
            Matcher m = Pattern.compile("^( {4}| {8})[a-z][\\w\\[\\] ]* \\w+\\([^;]*\\) \\{$").matcher(lines[i]);
            if (m.find()) {
                int end = i;
                while (end < lines.length && !lines[end].equals(m.group(1) + "}")) {
                    end++;
                }
                must("short: " + lines[i].trim(), end < lines.length && end - i < 60);
            }
        }
    }

    public static void main(String[] args) throws Exception {
        face();
        String source = Files.readString(Path.of("src/main/java/TinString.java"));
        String bare = bare(source);
        words(source, bare);
        lengths(bare);
        c.end();
    }
}
