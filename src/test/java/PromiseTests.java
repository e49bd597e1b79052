/** For each promise the ordinary, the edges that the document names, and what is refused. */
public final class PromiseTests {
    private static final int BAD = -1, STATE = -2, FULL = -3, NONE = -4;
    private static final int LOW = Integer.MIN_VALUE, HIGH = Integer.MAX_VALUE;
    private static final String TABLE =
        "plain 20 3 1;snake 9;sea 6 2;age 25 0 2;guest 14;laughs 5;plan 0 1 4 2 3 3 0;";
    private static final Due DUE = new Due();

    public static void main(String[] args) {
        aNewObject();
        feed();
        end();
        textThatIsTaken();
        textFaults();
        fault();
        rule();
        test();
        act();
        alter();
        strong();
        fill();
        plan();
        cut();
        pull();
        laughsHaveAnEnd();
        rest();
        runs();
        ahead();
        need();
        least();
        best();
        hide();
        swap();
        unmask();
        luck();
        mean();
        see();
        forget();
        kinds();
        ask();
        arms();
        drift();
        keepAndBack();
        sheet();
        lay();
        read();
        torn();
        count();
        DUE.end();
    }

    private static void aNewObject() {
        HornTests x = new HornTests();
        DUE.all("1", x.rule(0), 0, x.rule(1), 10, x.rule(2), 0, x.rule(3), 0, x.rule(4), 0, x.rule(5), 0,
            x.fault(), 0, x.torn(), 0, x.count(0), 0, x.count(1), 0, x.count(2), 0, x.count(3), NONE,
            x.count(4), 0, x.count(5), 0, x.test(0, 0), BAD, x.act(0), BAD, x.pull(0), BAD);
        for (int k = 0; k < 4; k++) {
            DUE.is("1: lay on sheet " + k, x.lay(k, 0, 0), -11);
        }
        DUE.is("BAD", HornTests.BAD, BAD);
        DUE.is("STATE", HornTests.STATE, STATE);
        DUE.is("FULL", HornTests.FULL, FULL);
        DUE.is("NONE", HornTests.NONE, NONE);
    }

    private static void feed() {
        HornTests x = new HornTests();
        DUE.all("2", x.feed(0), 1, x.feed(127), 2, x.feed(-1), BAD, x.feed(128), BAD, x.feed(LOW), BAD,
            x.feed(HIGH), BAD, x.count(2), 2);
        for (int i = 3; i <= 160; i++) {
            DUE.is("2: feed " + i, x.feed(32), i);
        }
        DUE.all("2 full", x.feed(32), FULL, x.feed(128), BAD, x.count(2), 160);
    }

    private static void end() {
        HornTests x = new HornTests();
        Due.write(x, "guest 5;xx");
        DUE.all("3", x.end(11), BAD, x.end(-1), BAD, x.end(HIGH), BAD, x.end(LOW), BAD, x.end(10), 10, x.end(8), 10,
            x.count(2), 8, x.text(), 1, x.rule(1), 5, x.end(0), 0, x.end(1), BAD);
        Due.write(x, "guest 12;");
        DUE.all("3 what is cut off is not read", x.end(7), 9, x.text(), -17, x.fault(), 2, x.rule(1), 5);
    }

    private static void textThatIsTaken() {
        HornTests x = Due.told(TABLE);
        x.see(0, 1, 0, 1);
        x.keep(0);
        x.keep(1);
        x.sheet(0, 2, 7);
        Due.write(x, "  age7   7  99 ; plan;laughs 99;");
        DUE.all("4", x.text(), 3, x.fault(), 0, x.count(2), 0, x.rule(0), 1, x.rule(1), 10, x.rule(2), 99,
            x.rule(3), 0, x.rule(4), 1, x.test(0, 0), 3, x.test(0, 1), 7, x.test(0, 2), 7, x.test(0, 3), 99,
            x.count(0), 0, x.count(1), 0, x.back(0), STATE, x.back(1), STATE, x.count(3), 7);
        DUE.all("4 nothing told", x.text(), 0, x.rule(0), 0, x.rule(1), 10, x.rule(2), 0, x.rule(3), 0);
        HornTests y = Due.told("plan 3 0 1 2 4 4 4 3;sea 1;sea 99 99 0;snake 2 0;plain 3 1 2;guest 0;laughs 0;");
        DUE.all("4 all full", y.rule(0), 4, y.rule(1), 0, y.rule(3), 8, y.rule(4), 2, y.rule(5), 100,
            y.act(0), 3, y.act(7), 3, y.test(3, 2), 1, y.test(3, 3), 2, y.test(2, 0), 1);
    }

    private static void refuses(String text, int place, int fault) {
        HornTests x = Due.told("plain 5 1 2;guest 7;laughs 3;plan 0;");
        x.see(0, 1, 0, 1);
        x.keep(1);
        Due.write(x, text);
        DUE.is("4: text '" + text + "'", x.text(), -10 - place);
        DUE.is("5: fault of '" + text + "'", x.fault(), fault);
        DUE.all("4 stays after '" + text + "'", x.count(2), 0, x.rule(0), 1, x.rule(1), 7, x.rule(2), 3, x.rule(3), 1,
            x.test(0, 1), 5, x.test(0, 2), 1, x.test(0, 3), 2, x.count(0), 1, x.count(1), 1);
    }

    private static void textFaults() {
        refuses("Plain 1;", 0, 1);
        refuses("plain 1;\t", 8, 1);
        refuses("plain 001;", 6, 1);
        refuses("plain 1 1 100;", 10, 1);
        refuses("plan 0 0 0 0 0 0 0 0 100;", 21, 1);
        refuses("guest 5 #", 8, 1);
        refuses("ring 100;", 0, 2);
        refuses("plains 1;", 0, 2);
        refuses("pla 1;", 0, 2);
        refuses("xlain 1;", 0, 2);
        refuses("plaix 1;", 0, 2);
        refuses("tea 5;", 0, 2);
        refuses("sew 5;", 0, 2);
        refuses("uge 5;", 0, 2);
        refuses("guess 1;", 0, 2);
        refuses("daughs 1;", 0, 2);
        refuses("clan;", 0, 2);
        refuses("k", 0, 2);
        refuses(" ; ", 1, 2);
        refuses("5;", 0, 2);
        refuses("plain", 5, 2);
        refuses("plain  ", 7, 2);
        refuses("plain 5", 7, 2);
        refuses("plain 5 5 5", 11, 2);
        refuses("plain sea;", 6, 2);
        refuses("plain 5 5 5 77;", 12, 2);
        refuses("guest;", 5, 2);
        refuses("guest 5 5;", 8, 2);
        refuses("laughs 5 5;", 9, 2);
        refuses("plan 4 guest;", 7, 2);
        refuses("plan 4", 6, 2);
        refuses("plan 4 4 4 4 4 4 4 4 a;", 21, 2);
        refuses("guest 5;;", 8, 2);
        refuses("plain 0;", 6, 3);
        refuses("plain 00;", 6, 3);
        refuses("plain 5 6;", 8, 3);
        refuses("guest 21;", 6, 3);
        refuses("guest 21#", 6, 3);
        refuses("plan 5;", 5, 3);
        refuses("guest 1;guest 99;", 8, 4);
        refuses("laughs 1;laughs;", 9, 4);
        refuses("plan;plan#", 5, 4);
        refuses("age 1;age 1;age 1;age 1;age#", 24, 5);
        refuses("plan 4 4 4 4 4 4 4 4 4;", 21, 5);
        refuses("plan 4 4 4 4 4 4 4 4 99;", 21, 5);
        refuses("plan 0;", 7, 6);
        refuses("plan 1;sea 5;  ", 15, 6);
        refuses("sea 1;sea 1;sea 1;plan 4 2 3;", 29, 6);
        refuses("plan 3;ring", 7, 2);
    }

    private static void fault() {
        HornTests x = new HornTests();
        Due.write(x, "#");
        DUE.all("5", x.fault(), 0, x.text(), -10, x.fault(), 1, x.feed(99), 1, x.fault(), 1, x.end(0), 1,
            x.text(), 0, x.fault(), 0);
    }

    private static void rule() {
        HornTests x = Due.told("plain 4 4;sea 6 2;age 1 1;guest 3;laughs 8;plan 4 4;");
        DUE.all("6", x.rule(0), 3, x.rule(1), 3, x.rule(2), 8, x.rule(3), 2, x.rule(4), 5, x.rule(5), 7,
            x.rule(-1), BAD, x.rule(6), BAD, x.rule(LOW), BAD, x.rule(HIGH), BAD);
    }

    private static void test() {
        HornTests x = Due.told("plain 30 1 2;snake 31;sea 32;age 33 0 4;guest 15;");
        DUE.all("7", x.test(0, 0), 0, x.test(0, 1), 30, x.test(0, 2), 1, x.test(0, 3), 2, x.test(0, 4), 15,
            x.test(1, 0), 1, x.test(1, 4), 7, x.test(2, 0), 2, x.test(2, 4), 1, x.test(3, 0), 3, x.test(3, 4), 7,
            x.test(0, 5), BAD, x.test(0, -1), BAD, x.test(4, 0), BAD, x.test(-1, 0), BAD, x.test(HIGH, HIGH), BAD);
        x.strong(16);
        x.alter(3, 3, 8);
        DUE.all("7 yields", x.test(2, 4), 2, x.test(1, 4), 8, x.test(3, 4), 0, x.alter(3, 3, 99), 8, x.test(3, 4), 0);
        x.strong(7);
        DUE.all("7 little", x.test(1, 4), 3, x.test(2, 4), 0);
    }

    private static void act() {
        HornTests x = Due.told("sea 5;plan 4 0;");
        DUE.all("8", x.act(0), 4, x.act(1), 0, x.act(2), BAD, x.act(-1), BAD, x.act(HIGH), BAD, x.act(LOW), BAD);
        x.cut(1);
        DUE.all("8 cut", x.act(1), BAD);
    }

    private static void alter() {
        HornTests x = Due.told("plain 20 8 3;");
        DUE.all("9", x.alter(0, 0, 3), 0, x.alter(0, 0, 0), 3, x.alter(0, 0, 1), 0, x.test(0, 0), 1, x.alter(0, 0, 4), BAD,
            x.alter(0, 0, -1), BAD, x.alter(0, 1, 8), 20, x.rule(4), 1, x.alter(0, 1, 7), STATE,
            x.alter(0, 1, 1), STATE, x.alter(0, 1, 0), BAD, x.alter(0, 1, 100), BAD, x.alter(0, 1, LOW), BAD,
            x.alter(0, 1, 99), 8, x.test(0, 1), 99, x.alter(0, 3, 99), 3, x.alter(0, 3, 100), BAD,
            x.alter(0, 3, -1), BAD, x.alter(0, 3, 0), 99, x.test(0, 3), 0, x.alter(0, 2, 1), BAD,
            x.alter(0, 4, 1), BAD, x.alter(0, -1, 1), BAD, x.alter(1, 0, 0), BAD, x.alter(-1, 1, 1), BAD,
            x.test(0, 2), 8, x.test(0, 0), 1);
    }

    private static void strong() {
        HornTests x = new HornTests();
        DUE.all("10", x.strong(20), 10, x.strong(21), BAD, x.strong(-1), BAD, x.strong(0), 20, x.rule(1), 0,
            x.strong(HIGH), BAD, x.strong(5), 0, x.rule(1), 5);
    }

    private static void fill() {
        HornTests x = Due.told("plain 20 8 3;sea 7 7 7;");
        DUE.all("11", x.fill(1), 7, x.test(1, 2), 0, x.test(1, 3), 0, x.test(0, 2), 8, x.fill(1), 0,
            x.fill(2), BAD, x.fill(-1), BAD, x.fill(HIGH), BAD, x.rule(5), 8, x.count(5), 3);
    }

    private static void plan() {
        HornTests x = Due.told("plain 20;sea 7;");
        DUE.all("12", x.plan(0), 1, x.plan(4), 2, x.plan(1), 3, x.plan(2), BAD, x.plan(3), BAD, x.plan(5), BAD,
            x.plan(-1), BAD, x.act(0), 0, x.act(1), 4, x.act(2), 1);
        for (int i = 4; i <= 8; i++) {
            DUE.is("12: act " + i, x.plan(4), i);
        }
        DUE.all("12 full", x.plan(4), FULL, x.plan(0), FULL, x.plan(2), BAD, x.plan(HIGH), BAD, x.rule(3), 8);
        HornTests y = new HornTests();
        DUE.all("12 no tests", y.plan(0), BAD, y.plan(4), 1);
    }

    private static void cut() {
        HornTests x = Due.told("sea 5;plan 0 4 4;");
        DUE.all("13", x.cut(4), BAD, x.cut(-1), BAD, x.cut(LOW), BAD, x.cut(3), 3, x.cut(1), 3, x.rule(3), 1,
            x.act(0), 0, x.cut(2), BAD, x.cut(0), 1, x.cut(0), 0);
    }

    private static void pull() {
        HornTests x = Due.told("plain 12;snake 99;sea 99;age 99;guest 10;");
        DUE.all("14", x.pull(0), 10, x.rule(1), 9, x.rule(2), 0, x.test(0, 3), 1, x.pull(0), 2, x.pull(0), STATE,
            x.rule(1), 8, x.pull(1), 4, x.rule(2), 0, x.pull(1), 3, x.rule(2), 1, x.pull(2), 0, x.rule(2), 2,
            x.pull(3), 5, x.pull(3), 2, x.rule(2), 2, x.pull(3), 0, x.rule(2), 3, x.rule(1), 2, x.test(3, 3), 3,
            x.pull(4), BAD, x.pull(-1), BAD, x.pull(1), 1, x.rule(2), 3, x.pull(1), 0, x.rule(2), 4, x.rule(1), 0,
            x.pull(1), STATE, x.pull(3), STATE, x.pull(0), STATE, x.pull(7), BAD, x.rule(2), 4, x.count(5), 10);
        x.strong(5);
        x.alter(1, 3, 99);
        DUE.all("14 most often", x.pull(1), 2, x.test(1, 3), 99);
    }

    private static void laughsHaveAnEnd() {
        HornTests x = Due.told("age 99 0 99;laughs 99;plan 0 0 4;");
        x.sheet(0, 0, 20);
        for (int i = 0; i < 44; i++) {
            x.strong(20);
            DUE.is("laughs: read", x.read(0, 0, 0, 20), 20);
        }
        DUE.is("laughs", x.rule(2), 979);
        x.strong(20);
        DUE.all("laughs", x.read(0, 0, 0, 19), 19, x.rule(2), 998, x.strong(20), 1, x.runs(3), 1,
            x.pull(0), 0, x.rule(2), 999, x.pull(0), 0, x.rule(2), 999, x.runs(3), 0, x.drift(1, 9, 1), 0);
    }

    private static void rest() {
        HornTests x = new HornTests();
        DUE.all("15", x.rest(0), 10, x.rest(1), 12, x.rest(3), 18, x.rest(20), 20, x.rest(1), 20, x.rest(-1), BAD,
            x.rest(21), BAD, x.rest(HIGH), BAD, x.strong(19), 20, x.rest(1), 20, x.strong(0), 20, x.rest(9), 18);
    }

    private static void runs() {
        HornTests x = Due.told(TABLE);
        DUE.all("16", x.runs(0), 1, x.runs(1), 44, x.runs(2), 10, x.runs(3), 2, x.runs(4), NONE, x.runs(-1), BAD,
            x.runs(5), BAD, x.runs(HIGH), BAD, x.rule(1), 14, x.rule(2), 5, x.rule(5), 5, x.rule(3), 7);
        HornTests y = Due.told("plain 3;plain 9;guest 1;plan 1 0 1 4 0 0 1;");
        DUE.all("16 passed over", y.runs(0), 1, y.runs(1), 4, y.runs(2), 0, y.runs(3), 0, y.runs(4), 1);
        y.strong(4);
        DUE.all("16 won", y.runs(0), 3, y.runs(1), 12, y.runs(4), 4, y.runs(2), 2);
        HornTests z = Due.told("plain 3 3;plan 4 0;");
        DUE.all("16 won before", z.runs(0), 1, z.runs(4), 1, z.runs(2), 12);
    }

    private static void ahead() {
        HornTests x = Due.told(TABLE);
        DUE.all("17", x.ahead(0), 20, x.ahead(1), 6, x.ahead(2), 3, x.ahead(3), 15, x.ahead(4), BAD, x.ahead(-1), BAD,
            x.ahead(HIGH), BAD, x.test(0, 2), 3);
        x.cut(0);
        DUE.all("17 no plan", x.ahead(0), 3, x.ahead(1), 0);
    }

    private static void need() {
        HornTests x = Due.told("plain 55;plain 56;snake 20 20;age 30 0 0;guest 10;");
        DUE.all("18", x.need(0), 10, x.need(1), NONE, x.need(2), 0, x.need(3), NONE, x.need(4), BAD, x.need(-1), BAD,
            x.rule(1), 10, x.test(0, 2), 0);
        x.strong(0);
        DUE.all("18 no strength", x.need(0), NONE, x.need(2), 0);
        x.strong(20);
        DUE.all("18 age", x.need(3), 2, x.alter(3, 1, 77), 30, x.need(3), 7, x.alter(3, 1, 78), 77, x.need(3), NONE);
    }

    private static void least() {
        HornTests x = Due.told("plain 20;plain 3 3;sea 99;plain 21;guest 1;");
        DUE.all("19", x.least(0, 1), 20, x.least(0, 2), 11, x.least(0, 20), 6, x.least(0, 0), NONE, x.least(1, 0), 0,
            x.least(1, 20), 0, x.least(2, 20), NONE, x.least(3, 1), NONE, x.least(3, 20), 6, x.least(0, 21), BAD,
            x.least(0, -1), BAD, x.least(4, 0), BAD, x.least(-1, 0), BAD, x.rule(1), 1);
    }

    private static void best() {
        HornTests x = new HornTests();
        DUE.all("20 no tests", x.best(0, 0), 0, x.best(4, 0), 0, x.best(4, 1), 0, x.best(4, 10), 4, x.best(4, 13), 4,
            x.best(3, 13), NONE, x.best(4, 14), NONE, x.best(0, 10), NONE, x.best(5, 0), BAD, x.best(-1, 0), BAD,
            x.best(1, 2), BAD, x.best(1, 9), BAD, x.best(1, -1), BAD, x.best(1, LOW), BAD, x.best(5, 10), BAD);
        HornTests y = Due.told("plain 50;plain 3;guest 10;");
        DUE.all("20 won before moved", y.best(1, 0), 1, y.best(1, 1), 3, y.best(1, 10), 1, y.best(2, 0), 1,
            y.best(2, 1), 13, y.best(2, 10), 0, y.best(2, 11), 1, y.best(2, 12), NONE, y.rule(5), 0, y.rule(1), 10);
        HornTests z = Due.told("plain 3;guest 1;");
        DUE.all("20 rests", z.best(2, 1), 3, z.best(2, 10), 4, z.best(2, 11), 0, z.best(1, 10), 0, z.best(3, 0), 1,
            z.best(3, 10), 0, z.best(3, 11), 4, z.best(3, 12), 0);
        HornTests w = Due.told("plain 3 3;sea 2 2;");
        DUE.all("20 all won", w.best(4, 0), 2, w.best(4, 1), 5, w.best(4, 10), 0, w.best(4, 13), 0);
    }

    private static void hide() {
        HornTests x = Due.told("age 10;sea 1 1;plain 5;plain 12;guest 10;");
        DUE.all("21", x.hide(0, 0), 0, x.hide(0, 1), 1, x.hide(0, 3), 2, x.hide(1, 0), NONE, x.hide(1, 20), NONE,
            x.hide(2, 1), 2, x.hide(2, 20), 2, x.hide(3, 2), 1, x.hide(3, 20), 2, x.hide(0, 21), BAD, x.hide(0, -1), BAD,
            x.hide(4, 1), BAD, x.hide(-1, 1), BAD, x.test(0, 0), 3);
        x.alter(2, 1, 1);
        x.alter(2, 3, 9);
        x.strong(12);
        DUE.all("21 as an age", x.hide(2, 1), 3, x.hide(2, 0), 0);
    }

    private static void swap() {
        HornTests x = Due.told(TABLE);
        DUE.all("22", x.swap(0), 1, x.swap(1), 1, x.swap(2), BAD, x.swap(-1), BAD, x.swap(HIGH), BAD,
            x.act(0), 0, x.act(1), 1);
        HornTests y = Due.told("snake 99;plain 99;guest 7;plan 0 1;");
        DUE.all("22 two", y.swap(0), 1, y.swap(1), 0, y.runs(3), 1);
        HornTests z = Due.told("plain 99;plan 0 0 4;");
        DUE.all("22 none", z.swap(0), NONE, z.swap(1), NONE, z.swap(2), BAD);
        HornTests w = Due.told("plain 99;snake 99;guest 9;laughs 9;plan 1 0 0 0;");
        DUE.all("22 the least of several", w.runs(3), 1, w.swap(0), 1, w.swap(1), 0);
        HornTests v = Due.told("plain 99;snake 99;guest 9;plan 0 1 1 0;");
        DUE.all("22 the last pair", v.runs(3), 1, v.swap(0), 23, v.swap(1), 0);
    }

    private static void unmask() {
        HornTests x = Due.told(TABLE);
        DUE.all("23", x.unmask(0), 3, x.unmask(1), 54, x.unmask(2), BAD, x.unmask(-1), BAD, x.test(3, 0), 3);
        HornTests y = Due.told("snake 9;snake 9;guest 10;plan 0 1;");
        DUE.all("23 first", y.runs(1), 9, y.unmask(0), 1, y.unmask(1), 14);
        HornTests z = Due.told("snake 5;snake 5;guest 9;plan 0 1;");
        DUE.all("23 equals", z.runs(1), 8, z.unmask(0), 0, z.unmask(1), 9);
        HornTests w = Due.told("plain 9;sea 1;plan 0;");
        DUE.all("23 none", w.unmask(0), NONE, w.unmask(1), NONE);
    }

    private static void luck() {
        HornTests x = Due.told("plain 20 3 1;age 9;sea 5 5;guest 14;");
        DUE.all("24", x.luck(3, 0, 3, 0), 98, x.luck(3, 0, 3, 1), 125, x.luck(5, 0, 2, 0), 1, x.luck(5, 0, 2, 1), 4,
            x.luck(0, 0, 1, 0), 0, x.luck(0, 0, 1, 1), 1, x.luck(0, 0, 2, 0), 1, x.luck(10, 0, 8, 0), 0,
            x.luck(10, 0, 8, 1), 1, x.luck(10, 2, 8, 0), 1, x.luck(10, 2, 8, 1), 1, x.luck(5, 2, 0, 0), 1,
            x.luck(5, 0, 0, 0), 0, x.luck(5, 0, 0, 1), 1);
        DUE.all("24 bad", x.luck(-1, 0, 1, 0), BAD, x.luck(11, 0, 1, 0), BAD, x.luck(1, 3, 1, 0), BAD,
            x.luck(1, -1, 1, 0), BAD, x.luck(1, 0, 9, 0), BAD, x.luck(1, 0, -1, 0), BAD, x.luck(1, 0, 1, 2), BAD,
            x.luck(1, 0, 1, -1), BAD);
        DUE.all("24 age", x.luck(1, 1, 1, 0), 9, x.luck(1, 1, 1, 1), 10, x.luck(1, 1, 8, 0), 99891,
            x.luck(1, 1, 8, 1), 100000, x.rule(1), 14, x.test(1, 3), 0);
        x.strong(2);
        x.alter(0, 1, 5);
        DUE.all("24 strength ends", x.luck(5, 0, 8, 0), 1, x.luck(5, 0, 8, 1), 2);
    }

    private static void mean() {
        HornTests x = Due.told("age 25 0 2;plain 99 7;sea 5 5;guest 14;");
        DUE.all("25", x.mean(0, 0, 4, 0), 22, x.mean(3, 0, 4, 0), 77, x.mean(3, 0, 4, 1), 5, x.mean(10, 0, 4, 0), 0,
            x.mean(10, 0, 4, 1), 1, x.mean(10, 1, 8, 0), 7, x.mean(5, 1, 1, 0), 14, x.mean(5, 1, 1, 1), 1,
            x.mean(5, 1, 2, 0), 41, x.mean(5, 1, 2, 1), 2, x.mean(1, 2, 8, 0), 5, x.mean(9, 1, 0, 0), 7);
        DUE.all("25 bad", x.mean(-1, 0, 1, 0), BAD, x.mean(11, 0, 1, 0), BAD, x.mean(1, 3, 1, 0), BAD,
            x.mean(1, -1, 1, 0), BAD, x.mean(1, 0, 9, 0), BAD, x.mean(1, 0, -1, 0), BAD, x.mean(1, 0, 1, 2), BAD,
            x.mean(1, 0, 1, -1), BAD);
        HornTests y = Due.told("plain 9 2;guest 3;");
        DUE.all("25 size at most", y.mean(0, 0, 8, 0), 8, y.mean(0, 0, 3, 0), 8, y.strong(20), 3, y.mean(1, 0, 1, 0), 83,
            y.mean(1, 0, 1, 1), 10);
        HornTests z = Due.told("plain 90 55;guest 8;");
        DUE.all("25 beyond an int", z.mean(1, 0, 8, 0), 8696953279L, z.mean(1, 0, 8, 1), 100000000);
    }

    private static void see() {
        HornTests x = Due.told("plain 5;sea 6;");
        DUE.all("26", x.see(0, 0, 0, 0), BAD, x.see(0, 21, 0, 0), BAD, x.see(0, 1, -1, 0), BAD, x.see(0, 1, 21, 0), BAD,
            x.see(0, 1, 0, -1), BAD, x.see(0, 1, 0, 21), BAD, x.see(2, 1, 0, 0), BAD, x.see(-1, 1, 0, 0), BAD,
            x.count(0), 0, x.see(0, 1, 0, 0), 1, x.see(1, 20, 20, 20), 2, x.see(0, 5, 5, 5), 3, x.see(0, 5, 5, 5), 4,
            x.see(1, 5, 5, 5), 5, x.see(1, 5, 5, 5), 6, x.see(1, 5, 5, 5), FULL, x.see(2, 5, 5, 5), BAD, x.count(0), 6);
    }

    private static void forget() {
        HornTests x = Due.told("plain 5;");
        x.see(0, 10, 0, 5);
        x.see(0, 10, 0, 10);
        DUE.all("27", x.kinds(0), 0, x.forget(3), BAD, x.forget(-1), BAD, x.forget(2), 2, x.forget(1), 2, x.kinds(0), 2,
            x.count(0), 1, x.forget(2), BAD, x.forget(0), 1, x.kinds(0), 15, x.forget(0), 0);
    }

    private static void kinds() {
        HornTests x = Due.told("plain 5;sea 6;");
        DUE.all("28", x.kinds(0), 15, x.kinds(2), BAD, x.kinds(-1), BAD, x.see(0, 10, 0, 10), 1, x.kinds(0), 9,
            x.kinds(1), 15, x.see(0, 10, 1, 8), 2, x.kinds(0), 8, x.see(1, 16, 7, 2), 3, x.kinds(1), 12,
            x.see(1, 8, 4, 4), 4, x.kinds(1), 0, x.kinds(0), 8, x.keep(0), 0, x.back(0), 0, x.kinds(0), 8);
    }

    private static void ask() {
        HornTests x = Due.told("plain 5;sea 6 6 2;age 9 0 99;guest 0;");
        DUE.all("29", x.ask(0, 0), 1, x.ask(0, 1), 2, x.ask(1, 0), 5, x.ask(1, 1), 1, x.ask(2, 0), 8, x.ask(2, 1), 1,
            x.ask(3, 0), BAD, x.ask(-1, 0), BAD, x.ask(0, 2), BAD, x.ask(0, -1), BAD);
        x.see(0, 10, 0, 10);
        DUE.all("29 plain or age, not pulled yet", x.ask(0, 0), NONE, x.ask(0, 1), NONE);
        x.alter(0, 3, 1);
        DUE.all("29 pulled once", x.ask(0, 0), 1, x.ask(0, 1), 1);
        x.see(0, 10, 0, 9);
        DUE.all("29 none can be", x.kinds(0), 0, x.ask(0, 0), NONE, x.ask(0, 1), NONE);
    }

    private static void arms() {
        HornTests x = Due.told("plain 5;sea 6;");
        DUE.all("30", x.arms(0, 0, 2, 0), 8, x.arms(0, 0, 2, 1), 2, x.arms(0, 0, 2, 2), 20, x.arms(0, 20, 20, 0), 1,
            x.arms(0, 20, 20, 1), 20, x.arms(0, 20, 20, 2), 20, x.arms(0, 21, 0, 0), BAD, x.arms(0, -1, 0, 0), BAD,
            x.arms(0, 0, 21, 0), BAD, x.arms(0, 0, -1, 0), BAD, x.arms(0, 0, 0, 3), BAD, x.arms(0, 0, 0, -1), BAD,
            x.arms(2, 0, 0, 0), BAD, x.arms(-1, 0, 0, 0), BAD);
        x.see(0, 10, 0, 5);
        DUE.all("30 a snake", x.arms(0, 0, 10, 0), 1, x.arms(0, 0, 10, 1), 20, x.arms(0, 0, 0, 0), 1,
            x.arms(0, 0, 3, 1), 6, x.arms(0, 0, 3, 2), 7, x.arms(0, 0, 11, 0), 0, x.arms(0, 0, 11, 1), NONE,
            x.arms(0, 0, 11, 2), NONE, x.arms(1, 0, 11, 0), 1);
        x.see(1, 10, 0, 9);
        DUE.all("30 nothing it may be", x.arms(1, 0, 0, 0), 0, x.arms(1, 0, 0, 1), NONE);
    }

    private static void drift() {
        HornTests x = new HornTests();
        DUE.all("31 no tests", x.drift(1, 1, 0), STATE, x.drift(1, 0, 0), BAD, x.drift(1, 61, 0), BAD,
            x.drift(1, 1, 2), BAD, x.drift(1, 1, -1), BAD);
        HornTests y = Due.told("plain 1;plain 1;plain 1;plain 1;guest 20;");
        DUE.all("31", y.drift(7, 1, 0), 1 << firstDrawn(7, 4), y.drift(LOW, 1, 0), 1 << firstDrawn(LOW, 4),
            y.drift(HIGH, 1, 0), 1 << firstDrawn(HIGH, 4), y.drift(-3, 1, 0), 1 << firstDrawn(-3, 4),
            y.drift(0, 60, 0), 15, y.rule(4), 0, y.rule(1), 20);
        HornTests w = Due.told("plain 1;plain 1;plain 1;guest 20;");
        for (int seed = 0; seed < 40; seed++) {
            DUE.is("31: seed " + seed, w.drift(seed * 77777777, 1, 0), 1 << firstDrawn(seed * 77777777, 3));
        }
        HornTests z = Due.told("age 99 0 99;guest 0;laughs 40;");
        DUE.all("31 rests", z.drift(5, 1, 1), 0, z.drift(5, 2, 1), 1, z.drift(5, 3, 1), 2, z.drift(5, 4, 1), 2,
            z.drift(5, 60, 1), 40, z.drift(5, 60, 0), 0, z.rule(2), 40);
    }

    private static int firstDrawn(int seed, int tests) {
        long grown = ((long) seed * 1103515245L + 12345L) & 0xffffffffL;
        return (int) ((grown / 65536 % 32768) % tests);
    }

    private static void keepAndBack() {
        HornTests x = Due.told("plain 20;sea 6;laughs 3;plan 4;");
        DUE.all("32 and 33", x.back(0), STATE, x.back(1), STATE, x.back(2), BAD, x.back(-1), BAD, x.keep(2), BAD,
            x.keep(-1), BAD, x.count(1), 0, x.keep(1), 0, x.keep(1), 1, x.count(1), 1, x.back(0), STATE,
            x.pull(0), 10, x.pull(1), 1, x.plan(0), 2, x.alter(1, 0, 1), 2, x.alter(1, 1, 50), 6, x.rule(2), 4,
            x.keep(0), 0, x.count(1), 2, x.back(1), 3, x.rule(1), 10, x.rule(2), 3, x.rule(3), 1, x.rule(5), 0,
            x.test(1, 0), 2, x.test(1, 1), 6, x.test(0, 3), 0, x.pull(0), 10, x.back(1), 3, x.test(0, 2), 0,
            x.back(0), 4, x.rule(1), 8, x.rule(3), 2, x.act(1), 0, x.test(1, 0), 1, x.test(1, 1), 50,
            x.test(1, 3), 1, x.count(1), 2);
    }

    private static void sheet() {
        HornTests x = new HornTests();
        DUE.all("34", x.sheet(0, 0, 0), 1, x.count(3), 0, x.sheet(0, 2, 40), 1, x.count(3), 40, x.sheet(0, 2, 41), BAD,
            x.sheet(0, 2, -1), -14, x.sheet(0, 2, LOW), -14, x.sheet(0, 3, 1), BAD, x.sheet(0, -1, -1), BAD,
            x.sheet(4, 0, -1), BAD, x.sheet(-1, 0, 1), BAD, x.count(3), 40);
        HornTests y = Due.told("plain 9;plain 9;");
        y.sheet(3, 1, 2);
        y.lay(3, 0, 1);
        DUE.all("34 cells 0", y.sheet(3, 0, 2), 1, y.read(3, 0, 0, 1), 1, y.test(0, 2), 9, y.test(1, 2), 0);
    }

    private static void lay() {
        HornTests x = Due.told("plain 9;plain 9;");
        DUE.all("35", x.lay(4, 0, 0), BAD, x.lay(-1, 0, 0), BAD, x.lay(0, 0, 0), -11, x.lay(0, -1, 0), -11,
            x.sheet(0, 0, 3), 1, x.lay(0, 3, 0), -12, x.lay(0, -1, 0), -12, x.lay(0, HIGH, 0), -12, x.lay(0, LOW, 0), -12,
            x.lay(0, 0, 257), 1, x.read(0, 0, 0, 1), 1, x.test(1, 2), 9, x.lay(0, 0, 128), 1, x.read(0, 0, 0, 1), -20,
            x.sheet(1, 1, 2), 1, x.lay(1, 1, 257), 1, x.read(1, 1, 1, 1), -20, x.lay(1, 1, -65536), 1,
            x.read(1, 1, 1, 1), 1, x.test(0, 2), 9, x.fill(0), 9, x.sheet(2, 2, 1), 1, x.lay(2, 0, 65536), 1,
            x.read(2, 2, 0, 1), -20, x.lay(2, 0, 0), 1, x.read(2, 2, 0, 1), 1);
        x.sheet(3, 2, 0);
        DUE.all("35 no cells", x.lay(3, 0, 0), -12);
    }

    private static void read() {
        HornTests x = Due.told("plain 9;plain 50;guest 10;");
        x.sheet(2, 2, 5);
        x.lay(2, 1, 1);
        x.lay(2, 3, 1);
        x.lay(2, 4, -1);
        DUE.all("36 bad", x.read(4, 2, 0, 1), BAD, x.read(-1, 2, 0, 1), BAD, x.read(2, 3, 0, 1), BAD,
            x.read(2, -1, 0, 1), BAD, x.read(2, 2, 0, 21), BAD, x.read(2, 2, 0, -1), BAD);
        DUE.all("36", x.read(2, 2, 0, 2), 2, x.test(0, 2), 9, x.test(1, 2), 9, x.rule(1), 8, x.read(2, 2, 1, 2), -21,
            x.test(1, 2), 9, x.rule(1), 8, x.read(2, 2, 3, 2), -21, x.test(1, 3), 1, x.read(2, 2, 0, 1), -20,
            x.read(2, 2, 3, 1), 1, x.test(1, 2), 17, x.lay(2, 4, 1), 1, x.read(2, 2, 3, 20), 2, x.torn(), 2,
            x.test(1, 2), 30, x.rule(1), 5, x.read(2, 2, 5, 1), 0, x.read(2, 2, HIGH, 2), 0, x.read(2, 2, LOW, 2), 0,
            x.read(2, 1, 0, 1), 0, x.read(0, 0, 0, 1), 0, x.rule(1), 5);
        x.strong(1);
        DUE.all("36 strength ends", x.read(2, 2, 3, 2), -21, x.rule(1), 1, x.read(2, 2, 3, 1), 1, x.rule(1), 0);
    }

    private static void torn() {
        HornTests x = Due.told("plain 9;guest 3;");
        x.sheet(0, 1, 2);
        x.lay(0, 1, 5);
        DUE.all("37", x.torn(), 0, x.read(0, 0, 0, 1), 0, x.torn(), 3, x.read(0, 0, 9, 1), 0, x.torn(), 3,
            x.read(1, 2, 0, 1), 0, x.torn(), 1, x.read(1, 2, -5, 1), 0, x.torn(), 1, x.read(0, 1, 2, 1), 0, x.torn(), 2,
            x.read(0, 1, -1, 3), 0, x.torn(), 2, x.read(0, 1, 0, 2), -21, x.torn(), 2, x.read(0, 1, 0, 21), BAD,
            x.torn(), 2, x.lay(0, 9, 9), -12, x.torn(), 2, x.sheet(0, 0, -1), -14, x.torn(), 2,
            x.read(0, 1, 0, 1), 1, x.torn(), 0, x.read(0, 1, 3, 1), 0, x.torn(), 2, x.read(0, 1, 3, 0), 0, x.torn(), 0);
    }

    private static void count() {
        HornTests x = Due.told("plain 9 1 2;sea 90 0 30;");
        x.see(0, 1, 1, 1);
        x.keep(1);
        Due.write(x, "abc");
        DUE.all("38", x.count(0), 1, x.count(1), 1, x.count(2), 3, x.count(3), NONE, x.count(4), 99, x.count(5), 32,
            x.count(6), BAD, x.count(-1), BAD, x.sheet(1, 0, 5), 1, x.count(3), NONE, x.sheet(0, 0, 0), 1, x.count(3), 0);
    }
}
