import java.lang.reflect.InvocationTargetException;
import java.lang.reflect.Method;
import java.util.HashMap;
import java.util.Map;
import java.util.regex.Matcher;
import java.util.regex.Pattern;

/** One object under test; its calls are told as text, each with the answer that is due. */
final class Run {
    /** What an object answers behind so many calls is free, so no test may ask for it. */
    private static final int MOST_CALLS = 512;
    private static final Pattern CALL = Pattern.compile("([a-z]+)\\(([^)]*)\\)=(\\S+)");
    private static final Map<String, Method> FACE = face();

    private final Due due;
    private final String sentence;
    private final HornTests x = new HornTests();
    private int calls = 0;

    Run(Due due, String sentence) {
        this.due = due;
        this.sentence = sentence;
    }

    private static Map<String, Method> face() {
        Map<String, Method> methods = new HashMap<>();
        for (Method m : HornTests.class.getMethods()) {
            if (m.getDeclaringClass() == HornTests.class) {
                methods.put(m.getName(), m);
            }
        }
        return methods;
    }

    int calls() {
        return calls;
    }

    long call(String name, int... args) {
        calls++;
        if (calls > MOST_CALLS) {
            throw new IllegalStateException(sentence + ": more than " + MOST_CALLS + " calls");
        }
        Object[] boxed = new Object[args.length];
        for (int i = 0; i < args.length; i++) {
            boxed[i] = args[i];
        }
        try {
            return ((Number) FACE.get(name).invoke(x, boxed)).longValue();
        } catch (IllegalAccessException | InvocationTargetException e) {
            throw new IllegalStateException(sentence + ": " + name + " threw", e);
        }
    }

    /** A call as text: name(number,number). */
    long call(String text) {
        int open = text.indexOf('(');
        String inside = text.substring(open + 1, text.length() - 1).trim();
        String[] parts = inside.isEmpty() ? new String[0] : inside.split(",");
        int[] args = new int[parts.length];
        for (int i = 0; i < parts.length; i++) {
            args[i] = (int) number(parts[i].trim());
        }
        return call(text.substring(0, open), args);
    }

    /** Rows of calls with the answers due: name(number,number)=answer, blanks between. */
    Run is(String rows) {
        Matcher m = CALL.matcher(rows);
        int end = 0;
        while (m.find()) {
            nothingBetween(rows.substring(end, m.start()));
            due.is(sentence + ": " + m.group(1) + "(" + m.group(2) + "), call " + (calls + 1),
                call(m.group(1) + "(" + m.group(2) + ")"), number(m.group(3)));
            end = m.end();
        }
        nothingBetween(rows.substring(end));
        return this;
    }

    /** A row that is misspelt must not be passed over in silence. */
    private static void nothingBetween(String rest) {
        if (!rest.isBlank()) {
            throw new IllegalArgumentException("no call: '" + rest + "'");
        }
    }

    Run write(String text) {
        for (int i = 0; i < text.length(); i++) {
            call("feed", text.charAt(i));
        }
        return this;
    }

    Run tell(String text) {
        write(text);
        long answer = call("text()");
        if (answer < 0) {
            throw new IllegalStateException(sentence + ": '" + text + "' was refused: " + answer);
        }
        return this;
    }

    static long number(String word) {
        switch (word) {
            case "BAD": return -1;
            case "STATE": return -2;
            case "FULL": return -3;
            case "NONE": return -4;
            case "MIN": return Integer.MIN_VALUE;
            case "MAX": return Integer.MAX_VALUE;
            default: return Long.parseLong(word);
        }
    }
}
