import java.io.IOException;
import java.lang.reflect.Field;
import java.lang.reflect.Modifier;
import java.nio.file.Files;
import java.nio.file.Path;
import java.util.ArrayDeque;
import java.util.ArrayList;
import java.util.Deque;
import java.util.List;
import java.util.Set;
import java.util.TreeSet;
import java.util.regex.Matcher;
import java.util.regex.Pattern;

/** What LANGUAGE.md asks of the source, by the rule's number, as far as a program can tell it. */
public final class RuleTests {
    private static final Due DUE = new Due();
    private static final String[] NOT_ALLOWED = {
        "2: ->", "2: ::", "2: \\bnew\\s+\\w+\\s*\\([^)]*\\)\\s*\\{",
        "3: \\b(var|double|float|Object)\\b",
        "4: \\b(import|package)\\b", "4: Exact\\b",
        "4: \\bMath\\.(?!min\\b|max\\b)", "4: \\bInteger\\.(?!bitCount\\b)", "4: \\bSystem\\.(?!arraycopy\\b)",
        "4: [^\\x00-\\x7f]",
        "5: \\bstatic\\s*\\{",
        "6: \\b(throw|throws|try|catch|finally|synchronized|assert)\\b",
        "6: \\b(equals|hashCode|toString)\\b",
        "9: \\bwhile\\s*\\(\\s*true\\b", "9: \\bfor\\s*\\([^;]*;\\s*;",
        "10: \"\\s*\\+|\\+\\s*\"",
        "13: \\b(Thread|Random|native|volatile)\\b"};
    /** Names with small letters that begin with a great one: the classes of the file, and four of the library. */
    private static final Set<String> KNOWN = Set.of("HornTests", "Evening", "Odds", "Sightings", "Sheets", "Scribe",
        "String", "Math", "Integer", "System");
    private static final Pattern HEAD = Pattern.compile(
        "( {4}| {8})((?:public |private |static |final )*)(?:([\\w\\[\\]]+) )?(\\w+)\\(.*\\) \\{");
    private static final int MOST_LINES = 60, MOST_DEEP = 8, MOST_CLASSES = 12, MOST_FIELDS = 20;
    private static final int MOST_PARAMETERS = 7;

    /** A method of the source; a constructor has no type. */
    private record Part(String name, String type, int line, int lines, String body) { }

    private static List<Part> parts;

    public static void main(String[] args) throws IOException {
        Path root = Path.of(System.getProperty("horn.root", "."));
        String text = Files.readString(root.resolve("src/main/java/HornTests.java"));
        String code = withoutComments(text);
        parts = partsOf(code);
        DUE.is("methods and constructors found in the source", parts.size(), declared());
        forms(code);
        names(code);
        fields();
        sizes();
        depths();
        objects();
        DUE.end();
    }

    /** Lines stay where they are, so that a finding can be told by its line. */
    private static String withoutComments(String text) {
        Matcher m = Pattern.compile("(?s)/\\*.*?\\*/|//[^\\n]*").matcher(text);
        return m.replaceAll(found -> found.group().replaceAll("[^\\n]", " ")).replaceAll("(?m) +$", "");
    }

    private static List<Part> partsOf(String code) {
        List<Part> found = new ArrayList<>();
        String[] lines = code.split("\n");
        for (int i = 0; i < lines.length; i++) {
            Matcher head = HEAD.matcher(lines[i]);
            if (!head.matches() || head.group(4).matches("if|for|while|switch")) {
                continue;
            }
            int end = i + 1;
            while (end < lines.length - 1 && !lines[end].equals(head.group(1) + "}")) {
                end++;
            }
            String body = String.join("\n", List.of(lines).subList(i + 1, end));
            found.add(new Part(head.group(4), head.group(3), i + 1, end - i + 1, body));
        }
        return found;
    }

    private static List<Class<?>> classes() {
        List<Class<?>> all = new ArrayList<>(List.of(HornTests.class.getDeclaredClasses()));
        all.add(HornTests.class);
        return all;
    }

    /** If a method were not found in the source, the tests of its lines would be worth nothing. */
    private static int declared() {
        int count = 0;
        for (Class<?> c : classes()) {
            count += c.getDeclaredMethods().length + c.getDeclaredConstructors().length;
        }
        return count;
    }

    private static void forms(String code) {
        for (String form : NOT_ALLOWED) {
            Matcher m = Pattern.compile(form.substring(form.indexOf(' ') + 1)).matcher(code);
            boolean found = m.find();
            DUE.is("rule " + form + (found ? " '" + m.group() + "'" : ""), found ? 1 : 0, 0);
        }
    }

    private static void names(String code) {
        Matcher m = Pattern.compile("\\b[A-Z]\\w*[a-z]\\w*\\b").matcher(code.replaceAll("\"[^\"]*\"", ""));
        Set<String> unknown = new TreeSet<>();
        while (m.find()) {
            if (!KNOWN.contains(m.group())) {
                unknown.add(m.group());
            }
        }
        DUE.is("rule 4: other classes " + unknown, unknown.size(), 0);
    }

    private static void fields() {
        Set<Class<?>> constants = Set.of(int.class, long.class, boolean.class, char.class, String.class,
            int[].class, long[].class, char[].class, byte[].class);
        for (Class<?> c : classes()) {
            int held = 0;
            for (Field f : c.getDeclaredFields()) {
                boolean isStatic = Modifier.isStatic(f.getModifiers());
                boolean isConstant = Modifier.isFinal(f.getModifiers()) && constants.contains(f.getType());
                held += isStatic ? 0 : 1;
                DUE.is("rule 5: static and no constant: " + f, isStatic && !isConstant ? 1 : 0, 0);
            }
            atMost("rule 11: fields of " + c, held, MOST_FIELDS);
        }
        atMost("rule 11: classes", classes().size(), MOST_CLASSES);
    }

    private static void sizes() {
        for (Part part : parts) {
            atMost("rule 11: lines of " + part.name + " at line " + part.line, part.lines, MOST_LINES);
        }
        for (Class<?> c : classes()) {
            for (java.lang.reflect.Method m : c.getDeclaredMethods()) {
                atMost("rule 11: parameters of " + m, m.getParameterCount(), MOST_PARAMETERS);
            }
        }
    }

    /** Methods of one name are held to be one, which makes no way shorter than it is. */
    private static void depths() {
        for (Part part : parts) {
            atMost("rule 11: calls open at once from " + part.name, deepest(part.name, new ArrayDeque<>()), MOST_DEEP);
        }
    }

    private static int deepest(String name, Deque<String> open) {
        if (open.contains(name)) {
            DUE.is("rule 8: calls itself: " + name + " through " + open, 1, 0);
            return 0;
        }
        open.push(name);
        int most = 0;
        for (Part part : parts) {
            if (part.name.equals(name)) {
                for (String called : calledBy(part)) {
                    most = Math.max(most, deepest(called, open));
                }
            }
        }
        open.pop();
        return most + 1;
    }

    private static Set<String> calledBy(Part part) {
        Set<String> called = new TreeSet<>();
        Matcher m = Pattern.compile("\\b(\\w+)\\(").matcher(part.body);
        while (m.find()) {
            for (Part other : parts) {
                if (other.name.equals(m.group(1))) {
                    called.add(other.name);
                }
            }
        }
        return called;
    }

    /** All calls of a run share one room, so objects are made by constructors alone. */
    private static void objects() {
        for (Part part : parts) {
            boolean makes = Pattern.compile("\\bnew\\b|\\.clone\\(|copyOf").matcher(part.body).find();
            DUE.is("rule 12: an object made in " + part.name, makes && part.type != null ? 1 : 0, 0);
        }
    }

    private static void atMost(String what, int got, int most) {
        DUE.is(what + ": " + got + " of " + most, got <= most ? 1 : 0, 1);
    }
}
