import java.math.BigInteger;
import java.util.ArrayList;
import java.util.List;
import java.util.Random;

/**
 * Random runs of 512 calls on the class and on a slow model beside it, which is written
 * another way (every case tried out, fractions by all outcomes), so that a slip in one shows.
 */
public final class ModelTests {
    private static final int BAD = -1, STATE = -2, FULL = -3, NONE = -4;
    private static final int RUNS = 400, CALLS = 512;
    private static final Due DUE = new Due();

    public static void main(String[] args) {
        for (int run = 0; run < RUNS; run++) {
            new ModelTests(run).go();
        }
        DUE.end();
    }

    private final Random random;
    private final HornTests x = new HornTests();
    private final Model m = new Model();
    private final int run;
    private int calls = 0;

    private ModelTests(int run) {
        this.run = run;
        this.random = new Random(1000003L * run + 17);
    }

    private void go() {
        while (calls < CALLS) {
            if (random.nextInt(40) == 0) {
                tell();
            } else {
                call(random.nextInt(36), m, x);
            }
        }
    }

    /** Mostly near the bounds that the document names, now and then far out. */
    private int some(int least, int most) {
        switch (random.nextInt(40)) {
            case 0: return least - 1;
            case 1: return most + 1;
            case 2: return random.nextInt();
            case 3: return random.nextBoolean() ? Integer.MAX_VALUE : Integer.MIN_VALUE;
            default: return least + random.nextInt(most - least + 1);
        }
    }

    private int aTest() {
        return some(0, Math.max(0, m.tests.size() - 1));
    }

    private void same(String call, long got, long want) {
        calls++;
        DUE.is("run " + run + ", call " + calls + ": " + call, got, want);
    }

    private void feed(String text) {
        for (int i = 0; i < text.length(); i++) {
            same("feed(" + (int) text.charAt(i) + ")", x.feed(text.charAt(i)), m.feed(text.charAt(i)));
        }
    }

    private void tell() {
        feed(aText());
        if (random.nextInt(6) == 0) {
            int n = some(0, m.tape.length());
            same("end(" + n + ")", x.end(n), m.end(n));
        }
        same("text() of '" + m.tape + "'", x.text(), m.text());
        same("fault()", x.fault(), m.textFault);
        state();
    }

    private void state() {
        for (int what = 0; what < 6; what++) {
            same("rule(" + what + ")", x.rule(what), m.rule(what));
            same("count(" + what + ")", x.count(what), m.count(what));
        }
        for (int t = 0; t < m.tests.size(); t++) {
            for (int what = 0; what < 5; what++) {
                same("test(" + t + "," + what + ")", x.test(t, what), m.test(t, what));
            }
        }
    }

    private String aText() {
        StringBuilder b = new StringBuilder();
        int tests = random.nextInt(random.nextInt(8) == 0 ? 6 : 5);
        for (int i = 0; i < tests; i++) {
            int size = 1 + random.nextInt(random.nextBoolean() ? 99 : 30);
            b.append(new String[] {"plain", "snake", "sea", "age"}[random.nextInt(4)]).append(' ').append(size);
            if (random.nextBoolean()) {
                b.append(' ').append(random.nextInt(size + 1));
                if (random.nextBoolean()) {
                    b.append(' ').append(random.nextInt(random.nextBoolean() ? 100 : 6));
                }
            }
            b.append(';');
        }
        if (random.nextInt(4) != 0) {
            b.append("guest ").append(random.nextInt(21)).append(';');
        }
        if (random.nextInt(3) == 0) {
            b.append("laughs ").append(random.nextInt(100)).append(';');
        }
        if (random.nextInt(3) != 0) {
            b.append("plan");
            int acts = random.nextInt(9);
            for (int i = 0; i < acts; i++) {
                int act = random.nextInt(tests + 1);
                b.append(' ').append(act >= Math.min(4, tests) ? 4 : act);
            }
            b.append(';');
        }
        if (random.nextInt(2) == 0) {
            spoil(b);
        }
        return b.length() > 170 ? b.substring(0, 170) : b.toString();
    }

    private void spoil(StringBuilder b) {
        String[] bits = {" ", ";", "7", "99", "0", "x", "#", "sea 1;", "guest 3;", "plan ", "plan 1;", "laughs 2;",
            "plain", " 4", " 5", " 100", "age 9 9 9;", "  "};
        int times = 1 + random.nextInt(2);
        for (int i = 0; i < times; i++) {
            int at = random.nextInt(b.length() + 1);
            if (random.nextInt(3) == 0 && at < b.length()) {
                b.deleteCharAt(at);
            } else {
                b.insert(at, bits[random.nextInt(bits.length)]);
            }
        }
    }

    private void call(int which, Model m, HornTests x) {
        if (which < 14) {
            changes(which);
        } else if (which < 26) {
            asks(which);
        } else {
            sheets(which);
        }
    }

    private void changes(int which) {
        int t = aTest();
        switch (which) {
            case 0: {
                int what = some(0, 3);
                int v = some(0, what == 0 ? 3 : random.nextBoolean() ? 99 : 8);
                same("alter(" + t + "," + what + "," + v + ")", x.alter(t, what, v), m.alter(t, what, v));
                break;
            }
            case 1: {
                int v = some(0, 20);
                same("strong(" + v + ")", x.strong(v), m.strong(v));
                break;
            }
            case 2:
                same("fill(" + t + ")", x.fill(t), m.fill(t));
                break;
            case 3:
            case 4:
            case 5: {
                int a = random.nextInt(3) == 0 ? 4 : t;
                same("plan(" + a + ")", x.plan(a), m.plan(a));
                break;
            }
            case 6: {
                int n = some(0, m.plan.size());
                same("cut(" + n + ")", x.cut(n), m.cut(n));
                break;
            }
            case 7:
            case 8:
            case 9:
                same("pull(" + t + ")", x.pull(t), m.pull(t));
                break;
            case 10: {
                int n = some(0, random.nextBoolean() ? 3 : 20);
                same("rest(" + n + ")", x.rest(n), m.rest(n));
                break;
            }
            case 11: {
                int k = some(0, 1);
                same("keep(" + k + ")", x.keep(k), m.keep(k));
                break;
            }
            case 12: {
                int k = some(0, 1);
                same("back(" + k + ")", x.back(k), m.back(k));
                state();
                break;
            }
            default: {
                int i = some(0, 7);
                same("act(" + i + ")", x.act(i), m.act(i));
            }
        }
    }

    private void asks(int which) {
        int t = aTest();
        int n = some(0, 20);
        int what = some(0, 1);
        switch (which) {
            case 14: {
                int w = some(0, 4);
                same("runs(" + w + ")", x.runs(w), m.runs(w));
                same("ahead(" + t + ")", x.ahead(t), m.ahead(t));
                break;
            }
            case 15:
                same("need(" + t + ")", x.need(t), m.need(t));
                same("least(" + t + "," + n + ")", x.least(t, n), m.least(t, n));
                break;
            case 16: {
                int length = some(0, 4);
                int w = random.nextInt(3) == 0 ? what : some(10, 14);
                same("best(" + length + "," + w + ")", x.best(length, w), m.best(length, w));
                break;
            }
            case 17:
                same("hide(" + t + "," + n + ")", x.hide(t, n), m.hide(t, n));
                break;
            case 18:
                same("swap(" + what + ")", x.swap(what), m.swap(what));
                break;
            case 19:
                same("unmask(" + what + ")", x.unmask(what), m.unmask(what));
                break;
            case 20:
            case 21: {
                int v = some(0, 10);
                int pulls = some(0, 8);
                String as = "(" + v + "," + t + "," + pulls + "," + what + ")";
                same("luck" + as, x.luck(v, t, pulls, what), m.odds(v, t, pulls, what, true));
                same("mean" + as, x.mean(v, t, pulls, what), m.odds(v, t, pulls, what, false));
                break;
            }
            case 22:
            case 23:
                seen(t);
                break;
            default: {
                int seed = random.nextInt();
                int acts = some(1, 60);
                same("drift(" + seed + "," + acts + "," + what + ")", x.drift(seed, acts, what), m.drift(seed, acts, what));
            }
        }
    }

    private void seen(int t) {
        int s = some(1, 20);
        int p = some(0, random.nextBoolean() ? 5 : 20);
        int y = some(0, 20);
        if (random.nextInt(4) != 0 && s >= 1 && s <= 20 && p >= 0 && p <= 20) {
            y = Model.yieldOf(random.nextInt(4), s, p);
        }
        same("see(" + t + "," + s + "," + p + "," + y + ")", x.see(t, s, p, y), m.see(t, s, p, y));
        same("kinds(" + t + ")", x.kinds(t), m.kinds(t));
        int what = some(0, 1);
        same("ask(" + t + "," + what + ")", x.ask(t, what), m.ask(t, what));
        int w = some(0, 2);
        same("arms(" + t + "," + p + "," + y + "," + w + ")", x.arms(t, p, y, w), m.arms(t, p, y, w));
        if (random.nextInt(5) == 0) {
            int n = some(0, m.seen.size());
            same("forget(" + n + ")", x.forget(n), m.forget(n));
        }
    }

    private void sheets(int which) {
        int k = some(0, 3);
        int lane = some(0, 2);
        switch (which) {
            case 26:
            case 27: {
                int n = random.nextBoolean() ? some(0, 4) : some(0, 40);
                same("sheet(" + k + "," + lane + "," + n + ")", x.sheet(k, lane, n), m.sheet(k, lane, n));
                break;
            }
            case 28:
            case 29:
            case 30:
            case 31: {
                int i = random.nextBoolean() ? some(0, 4) : some(0, 39);
                int v = random.nextInt(4) == 0 ? 65536 * random.nextInt(3) + 256 * random.nextInt(3) : aTest();
                same("lay(" + k + "," + i + "," + v + ")", x.lay(k, i, v), m.lay(k, i, v));
                break;
            }
            case 32:
                state();
                break;
            default: {
                if (random.nextInt(3) != 0 && k >= 0 && k < 4 && m.sheets[k] != null) {
                    lane = m.sheets[k] instanceof byte[] ? 0 : m.sheets[k] instanceof short[] ? 1 : 2;
                }
                int f = random.nextBoolean() ? some(0, 4) : some(0, 40);
                int n = some(0, random.nextBoolean() ? 4 : 20);
                same("read(" + k + "," + lane + "," + f + "," + n + ")", x.read(k, lane, f, n), m.read(k, lane, f, n));
                same("torn()", x.torn(), m.torn);
            }
        }
    }

    /** A TEST that is never changed: what is done to it makes another. */
    private record Trial(int kind, int size, int moved, int pulled) {
        boolean won() {
            return moved == size;
        }
    }

    private record Sight(int t, int s, int p, int y) { }

    private record Image(List<Trial> tests, int strength, int laughs, List<Integer> plan) { }

    private static final class Refused extends RuntimeException {
        private static final long serialVersionUID = 1L;
        final int fault;
        final int place;

        Refused(int fault, int place) {
            this.fault = fault;
            this.place = place;
        }
    }

    private static final class Model {
        List<Trial> tests = new ArrayList<>();
        List<Integer> plan = new ArrayList<>();
        List<Sight> seen = new ArrayList<>();
        final Image[] images = new Image[2];
        final Object[] sheets = new Object[4];
        StringBuilder tape = new StringBuilder();
        int strength = 10;
        int laughs = 0;
        int textFault = 0;
        int torn = 0;

        private static boolean in(long v, long least, long most) {
            return least <= v && v <= most;
        }

        private boolean no(int t) {
            return !in(t, 0, tests.size() - 1);
        }

        static int yieldOf(int kind, int s, int p) {
            int[] all = {s, s >> 1, s >> 3, s - p - p < 0 ? 0 : s - p - p};
            return all[kind];
        }

        Model twin() {
            Model twin = new Model();
            twin.tests = new ArrayList<>(tests);
            twin.plan = new ArrayList<>(plan);
            twin.seen = new ArrayList<>(seen);
            twin.strength = strength;
            twin.laughs = laughs;
            return twin;
        }

        int feed(int c) {
            if (!in(c, 0, 127)) {
                return BAD;
            }
            if (tape.length() == 160) {
                return FULL;
            }
            return tape.append((char) c).length();
        }

        int end(int n) {
            if (!in(n, 0, tape.length())) {
                return BAD;
            }
            int had = tape.length();
            tape.setLength(n);
            return had;
        }

        int text() {
            Model told = new Model();
            String text = tape.toString();
            tape.setLength(0);
            int lines;
            try {
                lines = new Words(text).into(told);
            } catch (Refused e) {
                textFault = e.fault;
                return -10 - e.place;
            }
            textFault = 0;
            tests = told.tests;
            plan = told.plan;
            strength = told.strength;
            laughs = told.laughs;
            seen.clear();
            images[0] = null;
            images[1] = null;
            return lines;
        }

        int bits() {
            int bits = 0;
            for (int t = tests.size() - 1; t >= 0; t--) {
                bits = bits * 2 + (tests.get(t).won() ? 1 : 0);
            }
            return bits;
        }

        int all(int what) {
            int sum = 0;
            for (Trial each : tests) {
                sum += what == 1 ? each.size : what == 2 ? each.moved : each.pulled;
            }
            return sum;
        }

        int rule(int what) {
            int[] all = {tests.size(), strength, laughs, plan.size(), bits(), all(2)};
            return in(what, 0, 5) ? all[what] : BAD;
        }

        int test(int t, int what) {
            if (no(t) || !in(what, 0, 4)) {
                return BAD;
            }
            Trial it = tests.get(t);
            return new int[] {it.kind, it.size, it.moved, it.pulled, yieldOf(it.kind, strength, it.pulled)}[what];
        }

        int act(int i) {
            return in(i, 0, plan.size() - 1) ? plan.get(i) : BAD;
        }

        int alter(int t, int what, int v) {
            if (no(t)) {
                return BAD;
            }
            Trial it = tests.get(t);
            if (what == 0 && in(v, 0, 3)) {
                tests.set(t, new Trial(v, it.size, it.moved, it.pulled));
                return it.kind;
            }
            if (what == 1 && in(v, 1, 99)) {
                if (v < it.moved) {
                    return STATE;
                }
                tests.set(t, new Trial(it.kind, v, it.moved, it.pulled));
                return it.size;
            }
            if (what == 3 && in(v, 0, 99)) {
                tests.set(t, new Trial(it.kind, it.size, it.moved, v));
                return it.pulled;
            }
            return BAD;
        }

        int strong(int v) {
            if (!in(v, 0, 20)) {
                return BAD;
            }
            int was = strength;
            strength = v;
            return was;
        }

        int fill(int t) {
            if (no(t)) {
                return BAD;
            }
            Trial it = tests.get(t);
            tests.set(t, new Trial(it.kind, it.size, 0, 0));
            return it.moved;
        }

        int plan(int a) {
            if (no(a) && a != 4) {
                return BAD;
            }
            if (plan.size() == 8) {
                return FULL;
            }
            plan.add(a);
            return plan.size();
        }

        int cut(int n) {
            if (!in(n, 0, plan.size())) {
                return BAD;
            }
            int had = plan.size();
            plan = new ArrayList<>(plan.subList(0, n));
            return had;
        }

        int pull(int t) {
            return pull(t, false);
        }

        int pull(int t, boolean slips) {
            if (no(t)) {
                return BAD;
            }
            Trial it = tests.get(t);
            if (it.won() || strength == 0) {
                return STATE;
            }
            int given = yieldOf(it.kind, strength, it.pulled);
            int then = slips ? it.moved : Math.min(it.moved + given, it.size);
            tests.set(t, new Trial(it.kind, it.size, then, Math.min(99, it.pulled + 1)));
            if (given + given < strength && laughs < 999) {
                laughs++;
            }
            strength--;
            return then - it.moved;
        }

        int rest(int n) {
            if (!in(n, 0, 20)) {
                return BAD;
            }
            strength = Math.min(20, strength + 2 * n);
            return strength;
        }

        /** An ACT, and whether it could be. */
        boolean done(int a) {
            return a == 4 ? rest(1) >= 0 : pull(a) >= 0;
        }

        int run() {
            int first = NONE;
            for (int i = plan.size(), at = 0; at < i; at++) {
                boolean could = done(plan.get(at));
                first = !could && first == NONE ? at : first;
            }
            return first;
        }

        int runs(int what) {
            Model then = twin();
            int first = then.run();
            int[] all = {then.bits(), then.all(2), then.strength, then.laughs - laughs, first};
            return in(what, 0, 4) ? all[what] : BAD;
        }

        int ahead(int t) {
            Model then = twin();
            then.run();
            return no(t) ? BAD : then.tests.get(t).moved;
        }

        int need(int t) {
            if (no(t)) {
                return BAD;
            }
            Model then = twin();
            int pulls = 0;
            while (then.pull(t) >= 0) {
                pulls++;
            }
            return then.tests.get(t).won() ? pulls : NONE;
        }

        int least(int t, int n) {
            if (no(t) || !in(n, 0, 20)) {
                return BAD;
            }
            int found = NONE;
            for (int s = 20; s >= 0; s--) {
                Model then = twin();
                then.strong(s);
                int pulls = then.need(t);
                found = pulls != NONE && pulls <= n ? s : found;
            }
            return found;
        }

        int best(int n, int what) {
            if (!in(n, 0, 4) || !(in(what, 0, 1) || what >= 10)) {
                return BAD;
            }
            long[] top = {-1};
            List<Integer> row = new ArrayList<>();
            search(n, new ArrayList<>(), top, row);
            if (what == 0) {
                return (int) (top[0] / 1000);
            }
            if (what == 1) {
                return (int) (top[0] % 1000);
            }
            return what - 10 < row.size() ? row.get(what - 10) : NONE;
        }

        private void search(int n, List<Integer> sofar, long[] top, List<Integer> row) {
            if (n == 0) {
                long worth = 1000L * Integer.bitCount(bits()) + all(2);
                if (worth > top[0]) {
                    top[0] = worth;
                    row.clear();
                    row.addAll(sofar);
                }
                return;
            }
            for (int a = 0; a <= 4; a++) {
                if (a == 4 || !no(a)) {
                    Model then = twin();
                    then.done(a);
                    List<Integer> longer = new ArrayList<>(sofar);
                    longer.add(a);
                    then.search(n - 1, longer, top, row);
                }
            }
        }

        int hide(int t, int n) {
            if (no(t) || !in(n, 0, 20)) {
                return BAD;
            }
            for (int kind = 0; kind < 4; kind++) {
                Model then = twin();
                then.alter(t, 0, kind);
                for (int i = 0; i < n; i++) {
                    then.pull(t);
                }
                if (!then.tests.get(t).won()) {
                    return kind;
                }
            }
            return NONE;
        }

        int swap(int what) {
            if (!in(what, 0, 1)) {
                return BAD;
            }
            int fewest = runs(3);
            int found = NONE;
            for (int both = 0; both < 100; both++) {
                int i = both / 10;
                int j = both % 10;
                if (i < j && j < plan.size()) {
                    Model other = twin();
                    other.plan.set(i, plan.get(j));
                    other.plan.set(j, plan.get(i));
                    if (other.runs(3) < fewest) {
                        fewest = other.runs(3);
                        found = both;
                    }
                }
            }
            return what == 0 || found == NONE ? found : fewest;
        }

        int unmask(int what) {
            if (!in(what, 0, 1)) {
                return BAD;
            }
            int most = runs(1);
            int found = NONE;
            for (int t = 0; t < tests.size(); t++) {
                Model other = twin();
                other.alter(t, 0, 0);
                if (other.runs(1) > most) {
                    most = other.runs(1);
                    found = t;
                }
            }
            return what == 0 || found == NONE ? found : most;
        }

        /** Over all 2^n outcomes, each told beforehand whether it would slip. */
        long odds(int v, int t, int n, int what, boolean luck) {
            if (!in(v, 0, 10) || no(t) || !in(n, 0, 8) || !in(what, 0, 1)) {
                return BAD;
            }
            BigInteger above = BigInteger.ZERO;
            for (int outcome = 0; outcome < 1 << n; outcome++) {
                Model then = twin();
                long ways = 1;
                for (int i = 0; i < n; i++) {
                    boolean slips = (outcome >> i & 1) == 1;
                    ways *= slips ? v : 10 - v;
                    then.pull(t, slips);
                }
                Trial it = then.tests.get(t);
                long worth = luck ? (it.won() ? 1 : 0) : it.moved;
                above = above.add(BigInteger.valueOf(ways * worth));
            }
            BigInteger below = BigInteger.TEN.pow(n);
            BigInteger common = above.gcd(below);
            return (what == 0 ? above : below).divide(common).longValueExact();
        }

        int see(int t, int s, int p, int y) {
            if (no(t) || !in(s, 1, 20) || !in(p, 0, 20) || !in(y, 0, 20)) {
                return BAD;
            }
            if (seen.size() == 6) {
                return FULL;
            }
            seen.add(new Sight(t, s, p, y));
            return seen.size();
        }

        int forget(int n) {
            if (!in(n, 0, seen.size())) {
                return BAD;
            }
            int had = seen.size();
            seen = new ArrayList<>(seen.subList(0, n));
            return had;
        }

        boolean maybe(int t, int kind) {
            return seen.stream().allMatch(e -> e.t != t || yieldOf(kind, e.s, e.p) == e.y);
        }

        int kinds(int t) {
            int bits = 0;
            for (int kind = 0; kind < 4; kind++) {
                bits += maybe(t, kind) ? 1 << kind : 0;
            }
            return no(t) ? BAD : bits;
        }

        int ask(int t, int what) {
            if (no(t) || !in(what, 0, 1)) {
                return BAD;
            }
            int fewest = Integer.bitCount(kinds(t));
            int found = NONE;
            for (int s = 1; s <= 20; s++) {
                int[] left = new int[21];
                for (int kind = 0; kind < 4; kind++) {
                    left[yieldOf(kind, s, tests.get(t).pulled)] += maybe(t, kind) ? 1 : 0;
                }
                int worst = 0;
                for (int each : left) {
                    worst = Math.max(worst, each);
                }
                if (worst < fewest) {
                    fewest = worst;
                    found = s;
                }
            }
            return what == 0 || found == NONE ? found : fewest;
        }

        int arms(int t, int p, int y, int what) {
            if (no(t) || !in(p, 0, 20) || !in(y, 0, 20) || !in(what, 0, 2)) {
                return BAD;
            }
            List<Integer> could = new ArrayList<>();
            for (int s = 1; s <= 20; s++) {
                boolean some = false;
                for (int kind = 0; kind < 4; kind++) {
                    some |= maybe(t, kind) && yieldOf(kind, s, p) == y;
                }
                if (some) {
                    could.add(s);
                }
            }
            if (what == 0) {
                return could.size();
            }
            return could.isEmpty() ? NONE : could.get(what == 1 ? 0 : could.size() - 1);
        }

        int drift(int seed, int n, int what) {
            if (!in(n, 1, 60) || !in(what, 0, 1)) {
                return BAD;
            }
            if (tests.isEmpty()) {
                return STATE;
            }
            Model then = twin();
            long grown = seed & 0xffffffffL;
            for (int i = 0; i < n; i++) {
                grown = (grown * 1103515245L + 12345L) & 0xffffffffL;
                int t = (int) (grown % 0x80000000L / 0x10000L % tests.size());
                if (!then.done(t)) {
                    then.done(4);
                }
            }
            return what == 0 ? then.bits() : then.laughs - laughs;
        }

        int keep(int k) {
            if (!in(k, 0, 1)) {
                return BAD;
            }
            int was = images[k] == null ? 0 : 1;
            images[k] = new Image(List.copyOf(tests), strength, laughs, List.copyOf(plan));
            return was;
        }

        int back(int k) {
            if (!in(k, 0, 1)) {
                return BAD;
            }
            if (images[k] == null) {
                return STATE;
            }
            tests = new ArrayList<>(images[k].tests);
            plan = new ArrayList<>(images[k].plan);
            strength = images[k].strength;
            laughs = images[k].laughs;
            return laughs;
        }

        /** Here the machine itself finds the faults, as the document's words have it. */
        int sheet(int k, int lane, int n) {
            if (!in(k, 0, 3) || !in(lane, 0, 2) || n > 40) {
                return BAD;
            }
            try {
                sheets[k] = lane == 0 ? new byte[n] : lane == 1 ? new short[n] : (Object) new int[n];
            } catch (NegativeArraySizeException e) {
                return -14;
            }
            return 1;
        }

        int lay(int k, int i, int v) {
            if (!in(k, 0, 3)) {
                return BAD;
            }
            try {
                if (sheets[k] instanceof byte[] row) {
                    row[i] = (byte) v;
                } else if (sheets[k] instanceof short[] row) {
                    row[i] = (short) v;
                } else {
                    ((int[]) sheets[k])[i] = v;
                }
            } catch (NullPointerException e) {
                return -11;
            } catch (ArrayIndexOutOfBoundsException e) {
                return -12;
            }
            return 1;
        }

        int read(int k, int lane, int f, int n) {
            if (!in(k, 0, 3) || !in(lane, 0, 2) || !in(n, 0, 20)) {
                return BAD;
            }
            Model then = twin();
            int found = 0;
            int i = 0;
            try {
                for (; i < n; i++) {
                    int t = lane == 0 ? ((byte[]) sheets[k])[f + i]
                        : lane == 1 ? ((short[]) sheets[k])[f + i] : ((int[]) sheets[k])[f + i];
                    if (then.pull(t) < 0) {
                        return -20 - i;
                    }
                }
            } catch (NullPointerException e) {
                found = 1;
            } catch (ArrayIndexOutOfBoundsException e) {
                found = 2;
            } catch (ClassCastException e) {
                found = 3;
            }
            tests = then.tests;
            strength = then.strength;
            laughs = then.laughs;
            torn = found;
            return i;
        }

        int count(int what) {
            int images = (this.images[0] == null ? 0 : 1) + (this.images[1] == null ? 0 : 1);
            int cells = sheets[0] == null ? NONE : java.lang.reflect.Array.getLength(sheets[0]);
            int[] all = {seen.size(), images, tape.length(), cells, all(1), all(3)};
            return in(what, 0, 5) ? all[what] : BAD;
        }
    }

    /** The grammar, read by taking TOKENS off the front of what is left. */
    private static final class Words {
        private final String text;
        private int at = 0;

        Words(String text) {
            this.text = text;
        }

        private void blanks() {
            while (at < text.length() && text.charAt(at) == ' ') {
                at++;
            }
        }

        /** The next TOKEN, not taken yet; "" at the end. */
        private String peek() {
            blanks();
            String left = text.substring(at);
            if (left.isEmpty()) {
                return "";
            }
            for (String form : new String[] {"[a-z]+", "[0-9]+", ";"}) {
                java.util.regex.Matcher m = java.util.regex.Pattern.compile(form).matcher(left);
                if (m.lookingAt()) {
                    if (form.equals("[0-9]+") && m.end() > 2) {
                        throw new Refused(1, at);
                    }
                    return m.group();
                }
            }
            throw new Refused(1, at);
        }

        private void take(String token) {
            at += token.length();
        }

        private boolean numberNext() {
            return peek().matches("[0-9]+");
        }

        private int number(int least, int most) {
            String token = peek();
            if (!token.matches("[0-9]+")) {
                throw new Refused(2, at);
            }
            int v = Integer.parseInt(token);
            if (v < least || v > most) {
                throw new Refused(3, at);
            }
            take(token);
            return v;
        }

        int into(Model told) {
            int lines = 0;
            List<String> once = new ArrayList<>();
            List<String> kinds = List.of("plain", "snake", "sea", "age");
            for (String name = peek(); !name.isEmpty(); name = peek()) {
                if (kinds.contains(name)) {
                    oneTest(told, kinds.indexOf(name), name);
                } else if (List.of("guest", "laughs", "plan").contains(name)) {
                    if (once.contains(name)) {
                        throw new Refused(4, at);
                    }
                    once.add(name);
                    take(name);
                    oneOther(told, name);
                } else {
                    throw new Refused(2, at);
                }
                String stop = peek();
                if (!stop.equals(";")) {
                    throw new Refused(2, at);
                }
                take(stop);
                lines++;
            }
            for (int a : told.plan) {
                if (a < 4 && a >= told.tests.size()) {
                    throw new Refused(6, text.length());
                }
            }
            return lines;
        }

        private void oneTest(Model told, int kind, String name) {
            if (told.tests.size() == 4) {
                throw new Refused(5, at);
            }
            take(name);
            int size = number(1, 99);
            int moved = numberNext() ? number(0, size) : 0;
            // A PULLED may stand only behind a MOVED, which one NUMBER alone would be.
            int pulled = numberNext() ? number(0, 99) : 0;
            told.tests.add(new Trial(kind, size, moved, pulled));
        }

        private void oneOther(Model told, String name) {
            if (name.equals("guest")) {
                told.strength = number(0, 20);
            } else if (name.equals("laughs")) {
                told.laughs = number(0, 99);
            } else {
                while (numberNext()) {
                    if (told.plan.size() == 8) {
                        throw new Refused(5, at);
                    }
                    told.plan.add(number(0, 4));
                }
            }
        }
    }
}
