import java.util.ArrayList;
import java.util.List;

/**
 * All that can be found out about an object by asking it, for tests that nothing has changed. What is
 * hidden (the tape's bytes, what was seen, images, cells) is brought to light at the cost of the object.
 */
final class Trace {
    private static final String[] STATE = {"rule(0)", "rule(1)", "rule(2)", "rule(3)", "rule(4)", "rule(5)"};
    private static final String[] COUNTS = {"count(0)", "count(1)", "count(2)", "count(3)"};
    /** Tests that yield 20, 10, 2 and 14 to strength 20, so that what is moved tells which was pulled at. */
    private static final String FOR_CELLS = "plain 99;snake 99;sea 99;age 99 0 3;guest 20;";

    private final Run run;
    private final List<String> found = new ArrayList<>();

    private Trace(Run run) {
        this.run = run;
    }

    static List<String> of(Run run) {
        return new Trace(run).all(true);
    }

    /** Without fault(), which a refused text() changes. */
    static List<String> withoutFault(Run run) {
        return new Trace(run).all(false);
    }

    private List<String> all(boolean withFault) {
        if (withFault) {
            ask("fault()");
        }
        ask("torn()");
        for (String count : COUNTS) {
            ask(count);
        }
        evening();
        seen();
        image(0);
        image(1);
        ask("text()");
        ask("fault()");
        evening();
        sheets();
        return found;
    }

    private long ask(String call) {
        long answer = run.call(call);
        found.add(call + "=" + answer);
        return answer;
    }

    private void evening() {
        for (String call : STATE) {
            ask(call);
        }
        long tests = run.call("rule", 0);
        for (int t = 0; t < tests; t++) {
            for (int what = 0; what < 4; what++) {
                ask("test(" + t + "," + what + ")");
            }
        }
        long acts = run.call("rule", 3);
        for (int i = 0; i < acts; i++) {
            ask("act(" + i + ")");
        }
    }

    private void seen() {
        long tests = run.call("rule", 0);
        for (long n = run.call("count", 0); n >= 0; n--) {
            ask("forget(" + n + ")");
            for (int t = 0; t < tests; t++) {
                ask("kinds(" + t + ")");
            }
        }
    }

    private void image(int k) {
        if (ask("back(" + k + ")") >= 0) {
            evening();
        }
    }

    private void sheets() {
        run.tell(FOR_CELLS);
        run.call("keep", 0);
        for (int k = 0; k < 4; k++) {
            for (int lane = 0; lane < 3; lane++) {
                run.call("read", k, lane, -1, 1);
                if (ask("torn()") == 2) {
                    cells(k, lane);
                }
            }
        }
    }

    private void cells(int k, int lane) {
        for (int i = 0; i <= 40; i++) {
            run.call("back", 0);
            long pulled = ask("read(" + k + "," + lane + "," + i + ",1)");
            if (pulled == 0) {
                return;
            }
            ask("rule(5)");
        }
    }
}
