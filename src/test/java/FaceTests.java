import java.lang.reflect.Field;
import java.lang.reflect.Method;
import java.lang.reflect.Modifier;
import java.util.Set;
import java.util.TreeSet;

/** The public face is the document's to the letter, and there is nothing beside it (LANGUAGE.md, rule 1). */
public final class FaceTests {
    private static final String[] METHODS = {
        "int feed(int)", "int end(int)", "int text()", "int fault()", "int rule(int)", "int test(int,int)",
        "int act(int)", "int alter(int,int,int)", "int strong(int)", "int fill(int)", "int plan(int)", "int cut(int)",
        "int pull(int)", "int rest(int)", "int runs(int)", "int ahead(int)", "int need(int)", "int least(int,int)",
        "int best(int,int)", "int hide(int,int)", "int swap(int)", "int unmask(int)", "long luck(int,int,int,int)",
        "long mean(int,int,int,int)", "int see(int,int,int,int)", "int forget(int)", "int kinds(int)",
        "int ask(int,int)", "int arms(int,int,int,int)", "int drift(int,int,int)", "int keep(int)", "int back(int)",
        "int sheet(int,int,int)", "int lay(int,int,int)", "int read(int,int,int,int)", "int torn()", "int count(int)"};
    private static final Due DUE = new Due();

    public static void main(String[] args) {
        methods();
        constants();
        nested();
        DUE.end();
    }

    private static void methods() {
        Set<String> due = new TreeSet<>(Set.of(METHODS));
        Set<String> names = new TreeSet<>();
        for (Method m : HornTests.class.getDeclaredMethods()) {
            if (Modifier.isPrivate(m.getModifiers())) {
                continue;
            }
            StringBuilder b = new StringBuilder(m.getReturnType().getName()).append(' ').append(m.getName()).append('(');
            for (int i = 0; i < m.getParameterCount(); i++) {
                b.append(i == 0 ? "" : ",").append(m.getParameterTypes()[i].getName());
            }
            DUE.is("in the face: " + b.append(')'), due.remove(b.toString()) ? 1 : 0, 1);
            DUE.is("public, of an object: " + b, m.getModifiers(), Modifier.PUBLIC);
            names.add(m.getName());
        }
        DUE.is("not there: " + due, due.size(), 0);
        noPrivateTwin(HornTests.class, names);
        for (Class<?> inside : HornTests.class.getDeclaredClasses()) {
            noPrivateTwin(inside, names);
        }
        DUE.is("constructors", HornTests.class.getConstructors().length, 1);
        DUE.is("all constructors", HornTests.class.getDeclaredConstructors().length, 1);
        DUE.is("class", HornTests.class.getModifiers(), Modifier.PUBLIC | Modifier.FINAL);
    }

    private static void noPrivateTwin(Class<?> c, Set<String> names) {
        for (Method m : c.getDeclaredMethods()) {
            if (Modifier.isPrivate(m.getModifiers())) {
                DUE.is("private with a public name: " + c + " " + m.getName(), names.contains(m.getName()) ? 1 : 0, 0);
            }
        }
    }

    private static void constants() {
        Set<String> due = new TreeSet<>(Set.of("BAD", "STATE", "FULL", "NONE"));
        for (Field f : HornTests.class.getDeclaredFields()) {
            if (!Modifier.isPrivate(f.getModifiers())) {
                DUE.is("constant of the face: " + f.getName(), due.remove(f.getName()) ? 1 : 0, 1);
                DUE.is("int: " + f.getName(), f.getType() == int.class ? 1 : 0, 1);
                DUE.is("public, static, final: " + f.getName(), f.getModifiers(),
                    Modifier.PUBLIC | Modifier.STATIC | Modifier.FINAL);
            }
        }
        DUE.is("constants not there: " + due, due.size(), 0);
        DUE.is("BAD", HornTests.BAD, -1);
        DUE.is("STATE", HornTests.STATE, -2);
        DUE.is("FULL", HornTests.FULL, -3);
        DUE.is("NONE", HornTests.NONE, -4);
    }

    private static void nested() {
        for (Class<?> c : HornTests.class.getDeclaredClasses()) {
            DUE.is("static: " + c, Modifier.isStatic(c.getModifiers()) ? 1 : 0, 1);
            DUE.is("not public: " + c, c.getModifiers() & (Modifier.PUBLIC | Modifier.PROTECTED), 0);
        }
    }
}
