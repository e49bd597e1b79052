import java.io.IOException;
import java.lang.reflect.Field;
import java.lang.reflect.Method;
import java.lang.reflect.Modifier;
import java.nio.file.Files;
import java.nio.file.Path;
import java.util.Set;
import java.util.TreeSet;
import java.util.regex.Matcher;
import java.util.regex.Pattern;

/** The face is the document's to the letter, and the source keeps to what LANGUAGE.md leaves. */
public final class FaceTests {
    private static final String[] METHODS = {
        "int feed(int)", "int end(int)", "int text()", "int fault()", "int rule(int)", "int test(int,int)",
        "int act(int)", "int alter(int,int,int)", "int strong(int)", "int fill(int)", "int plan(int)", "int cut(int)",
        "int pull(int)", "int rest(int)", "int runs(int)", "int ahead(int)", "int need(int)", "int least(int,int)",
        "int best(int,int)", "int hide(int,int)", "int swap(int)", "int unmask(int)", "long luck(int,int,int,int)",
        "long mean(int,int,int,int)", "int see(int,int,int,int)", "int forget(int)", "int kinds(int)",
        "int ask(int,int)", "int arms(int,int,int,int)", "int drift(int,int,int)", "int keep(int)", "int back(int)",
        "int sheet(int,int,int)", "int lay(int,int,int)", "int read(int,int,int,int)", "int torn()", "int count(int)"};
    private static final String[] NOT_ALLOWED = {
        "\\b(throw|throws|try|catch|finally|synchronized|assert|import|package|protected|native|volatile)\\b",
        "->", "::", "\\bvar\\b", "Exact\\b", "\\bThread\\b", "\\bObject\\b", "\\bSystem\\.(?!arraycopy\\b)",
        "\\bstatic\\s*\\{", "[^\\x00-\\x7f]"};
    private static final Due DUE = new Due();

    public static void main(String[] args) throws IOException {
        methods();
        fields();
        nested();
        source();
        DUE.end();
    }

    private static void methods() {
        Set<String> due = new TreeSet<>(Set.of(METHODS));
        Set<String> names = new TreeSet<>();
        for (Method m : HornTests.class.getDeclaredMethods()) {
            if (Modifier.isPrivate(m.getModifiers())) {
                continue;
            }
            StringBuilder b = new StringBuilder(m.getReturnType().getName()).append(' ').append(m.getName()).append('(');
            for (int i = 0; i < m.getParameterCount(); i++) {
                b.append(i == 0 ? "" : ",").append(m.getParameterTypes()[i].getName());
            }
            DUE.is("in the face: " + b.append(')'), due.remove(b.toString()) ? 1 : 0, 1);
            DUE.is("public, of an object: " + b, m.getModifiers(), Modifier.PUBLIC);
            names.add(m.getName());
        }
        DUE.is("not there: " + due, due.size(), 0);
        noPrivateTwin(HornTests.class, names);
        for (Class<?> inside : HornTests.class.getDeclaredClasses()) {
            noPrivateTwin(inside, names);
        }
        DUE.is("constructors", HornTests.class.getConstructors().length, 1);
        DUE.is("all constructors", HornTests.class.getDeclaredConstructors().length, 1);
        DUE.is("class", HornTests.class.getModifiers(), Modifier.PUBLIC | Modifier.FINAL);
    }

    private static void noPrivateTwin(Class<?> c, Set<String> names) {
        for (Method m : c.getDeclaredMethods()) {
            if (Modifier.isPrivate(m.getModifiers())) {
                DUE.is("private with a public name: " + c + " " + m.getName(), names.contains(m.getName()) ? 1 : 0, 0);
            }
            DUE.is("parameters of " + m, m.getParameterCount() <= 7 ? 1 : 0, 1);
        }
    }

    private static void fields() {
        Set<String> due = new TreeSet<>(Set.of("BAD", "STATE", "FULL", "NONE"));
        for (Field f : HornTests.class.getDeclaredFields()) {
            if (!Modifier.isPrivate(f.getModifiers())) {
                DUE.is("constant of the face: " + f.getName(), due.remove(f.getName()) ? 1 : 0, 1);
            }
        }
        DUE.is("constants not there: " + due, due.size(), 0);
    }

    private static void nested() {
        DUE.is("classes", HornTests.class.getDeclaredClasses().length <= 12 ? 1 : 0, 1);
        for (Class<?> c : HornTests.class.getDeclaredClasses()) {
            DUE.is("static: " + c, Modifier.isStatic(c.getModifiers()) ? 1 : 0, 1);
            DUE.is("not public: " + c, c.getModifiers() & (Modifier.PUBLIC | Modifier.PROTECTED), 0);
            int held = 0;
            for (Field f : c.getDeclaredFields()) {
                held += Modifier.isStatic(f.getModifiers()) ? 0 : 1;
                boolean kept = !Modifier.isStatic(f.getModifiers()) || Modifier.isFinal(f.getModifiers());
                DUE.is("static and not final: " + f, kept ? 1 : 0, 1);
            }
            DUE.is("fields of " + c, held <= 20 ? 1 : 0, 1);
        }
    }

    private static void source() throws IOException {
        Path root = Path.of(System.getProperty("horn.root", "."));
        String text = Files.readString(root.resolve("src/main/java/HornTests.java"));
        String code = text.replaceAll("(?s)/\\*.*?\\*/", "").replaceAll("//[^\\n]*", "");
        for (String form : NOT_ALLOWED) {
            Matcher m = Pattern.compile(form).matcher(code);
            boolean found = m.find();
            DUE.is("in the source: '" + (found ? m.group() : form) + "'", found ? 1 : 0, 0);
        }
        longestMethod(text);
    }

    private static void longestMethod(String text) {
        String[] lines = text.split("\n");
        int from = -1;
        String indent = "";
        for (int i = 0; i < lines.length; i++) {
            if (from < 0 && lines[i].matches(" {4,8}[A-Za-z].*\\) \\{") && !lines[i].contains(" class ")) {
                from = i;
                indent = lines[i].replaceAll("\\S.*", "");
            } else if (from >= 0 && lines[i].equals(indent + "}")) {
                DUE.is("long method at line " + (from + 1), i - from <= 60 ? 1 : 0, 1);
                from = -1;
            }
        }
    }
}
