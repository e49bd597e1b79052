/**
 * Each number that a call takes: the last that is as told and the first that is not, on both sides, with the
 * ends of all ints; and behind each that is refused, that nothing has changed.
 */
public final class BoundTests {
    private static final Due DUE = new Due();
    private static final Tables TABLES = new Tables(DUE);

    public static void main(String[] args) {
        theText();
        whatIsChanged();
        pulls();
        whatIsBest();
        pullsThatSlip();
        whatATestIs();
        bySeed();
        imagesAndSheets();
        testsThatThereAre();
        whatThereIsSoFar();
        DUE.end();
    }

    /** '#' in the call stands for the number; what lies outside is BAD. */
    private static void bound(String sentence, int table, String call, int least, String dueLeast, int most,
            String dueMost) {
        bound(sentence, table, call, least, dueLeast, most, dueMost, "BAD", "BAD");
    }

    private static void bound(String sentence, int table, String call, int least, String dueLeast, int most,
            String dueMost, String below, String above) {
        TABLES.taken(sentence, table, put(call, least, dueLeast) + put(call, most, dueMost));
        TABLES.refused(sentence, table, put(call, least - 1, below) + put(call, Integer.MIN_VALUE, below)
            + put(call, most + 1, above) + put(call, Integer.MAX_VALUE, above));
    }

    private static String put(String call, int number, String due) {
        return " " + call.replace("#", String.valueOf(number)) + "=" + due;
    }

    private static void theText() {
        bound("2: a byte (0 to 127)", Tables.RICH, "feed(#)", 0, "7", 127, "7");
        bound("2: a byte (0 to 127)", Tables.BARE, "feed(#)", 0, "1", 127, "1");
        bound("3: its first n bytes", Tables.RICH, "end(#)", 0, "6", 6, "6");
        bound("3: its first n bytes", Tables.BARE, "end(#)", 0, "0", 0, "0");
        bound("3: its first n bytes", Tables.TAPE_FULL, "end(#)", 0, "160", 160, "160");
        bound("6: what", Tables.RICH, "rule(#)", 0, "4", 5, "14");
        bound("6: what", Tables.BARE, "rule(#)", 0, "0", 5, "0");
        bound("7: a TEST", Tables.RICH, "test(#,1)", 0, "20", 3, "25");
        bound("7: what", Tables.RICH, "test(3,#)", 0, "3", 4, "7");
        bound("8: the i-th ACT", Tables.RICH, "act(#)", 0, "0", 7, "4");
        TABLES.refused("8: no ACTS", Tables.BARE, "act(0)=BAD");
    }

    private static void whatIsChanged() {
        bound("9: a TEST", Tables.RICH, "alter(#,1,30)", 0, "20", 3, "25");
        bound("9: KIND", Tables.RICH, "alter(3,0,#)", 0, "3", 3, "3");
        bound("9: SIZE (1 to 99)", Tables.RICH, "alter(3,1,#)", 1, "25", 99, "25");
        TABLES.taken("9: SIZE not less than is MOVED", Tables.RICH, "alter(0,1,3)=20 alter(0,1,99)=20 alter(1,1,9)=9");
        TABLES.refused("9: SIZE would be less than is MOVED", Tables.RICH,
            "alter(0,1,2)=STATE alter(0,1,1)=STATE alter(1,1,8)=STATE alter(1,1,1)=STATE");
        TABLES.refused("9: SIZE out of its bounds, however much is MOVED", Tables.RICH,
            "alter(0,1,0)=BAD alter(0,1,-1)=BAD alter(0,1,MIN)=BAD alter(1,1,0)=BAD alter(1,1,100)=BAD "
                + "alter(1,1,MAX)=BAD");
        bound("9: PULLED (0 to 99)", Tables.RICH, "alter(3,3,#)", 0, "2", 99, "2");
        TABLES.taken("9: what 0, 1, 3", Tables.RICH, "alter(0,0,3)=0 alter(0,1,3)=20 alter(0,3,3)=1");
        TABLES.refused("9: what 0, 1, 3", Tables.RICH,
            "alter(0,-1,3)=BAD alter(0,2,3)=BAD alter(0,4,3)=BAD alter(0,MIN,3)=BAD alter(0,MAX,3)=BAD");
        bound("10: STRENGTH (0 to 20)", Tables.RICH, "strong(#)", 0, "11", 20, "11");
        bound("10: STRENGTH (0 to 20)", Tables.BARE, "strong(#)", 0, "10", 20, "10");
        bound("11: a TEST", Tables.RICH, "fill(#)", 0, "3", 3, "0");
        bound("12: a TEST, a REST", Tables.ROOM, "plan(#)", 0, "8", 4, "8");
        bound("12: no TESTS, a REST", Tables.BARE, "plan(#)", 4, "1", 4, "1");
        bound("13: its first n ACTS", Tables.RICH, "cut(#)", 0, "8", 8, "8");
        bound("13: its first n ACTS", Tables.ROOM, "cut(#)", 0, "7", 7, "7");
        bound("13: its first n ACTS", Tables.BARE, "cut(#)", 0, "0", 0, "0");
    }

    private static void pulls() {
        bound("14: a TEST", Tables.RICH, "pull(#)", 0, "11", 3, "7");
        bound("14: a TEST, no STRENGTH", Tables.WEAK, "pull(#)", 0, "STATE", 3, "STATE");
        bound("15: n RESTS (0 to 20)", Tables.RICH, "rest(#)", 0, "11", 20, "20");
        bound("15: n RESTS (0 to 20)", Tables.BARE, "rest(#)", 0, "10", 20, "20");
        bound("16: what", Tables.RICH, "runs(#)", 0, "3", 4, "1");
        bound("16: what", Tables.BARE, "runs(#)", 0, "0", 4, "NONE");
        bound("17: a TEST", Tables.RICH, "ahead(#)", 0, "20", 3, "11");
        bound("18: a TEST", Tables.RICH, "need(#)", 0, "2", 3, "NONE");
        bound("19: a TEST", Tables.RICH, "least(#,20)", 0, "6", 3, "15");
        bound("19: n PULLS (0 to 20)", Tables.RICH, "least(0,#)", 0, "NONE", 20, "6");
    }

    private static void whatIsBest() {
        bound("20: n ACTS (0 to 4)", Tables.RICH, "best(#,0)", 0, "1", 4, "2");
        bound("20: n ACTS (0 to 4)", Tables.BARE, "best(#,0)", 0, "0", 4, "0");
        bound("20: n ACTS (0 to 4), a place that is not there", Tables.RICH, "best(#,14)", 0, "NONE", 4, "NONE");
        TABLES.taken("20: what 0, 1", Tables.RICH, "best(1,0)=1 best(1,1)=25 best(4,0)=2 best(4,1)=42");
        TABLES.refused("20: what 0, 1", Tables.RICH, "best(1,-1)=BAD best(1,MIN)=BAD best(1,2)=BAD best(4,9)=BAD");
        TABLES.taken("20: 10 and i", Tables.RICH, "best(1,10)=0 best(4,10)=3 best(4,11)=3 best(4,12)=0 best(4,13)=0");
        TABLES.refused("20: not so many", Tables.RICH,
            "best(0,10)=NONE best(1,11)=NONE best(3,13)=NONE best(4,14)=NONE best(4,MAX)=NONE");
        bound("21: a TEST", Tables.RICH, "hide(#,20)", 0, "2", 3, "2");
        bound("21: n PULLS (0 to 20)", Tables.RICH, "hide(0,#)", 0, "0", 20, "2");
        bound("22: what", Tables.RICH, "swap(#)", 0, "7", 1, "1");
        bound("22: what, none", Tables.BARE, "swap(#)", 0, "NONE", 1, "NONE");
        bound("23: what", Tables.RICH, "unmask(#)", 0, "2", 1, "54");
        bound("23: what, none", Tables.BARE, "unmask(#)", 0, "NONE", 1, "NONE");
    }

    private static void pullsThatSlip() {
        bound("24: v out of ten (0 to 10)", Tables.RICH, "luck(#,0,3,0)", 0, "1", 10, "0");
        bound("24: a TEST", Tables.RICH, "luck(0,#,8,0)", 0, "1", 3, "0");
        bound("24: n PULLS (0 to 8)", Tables.RICH, "luck(0,0,#,0)", 0, "0", 8, "1");
        bound("24: 0, 1", Tables.RICH, "luck(5,0,2,#)", 0, "1", 1, "4");
        bound("25: v out of ten (0 to 10)", Tables.RICH, "mean(#,0,1,0)", 0, "14", 10, "3");
        bound("25: a TEST", Tables.RICH, "mean(0,#,1,0)", 0, "14", 3, "7");
        bound("25: n PULLS (0 to 8)", Tables.RICH, "mean(0,0,#,0)", 0, "3", 8, "20");
        bound("25: 0, 1", Tables.RICH, "mean(5,0,1,#)", 0, "17", 1, "2");
    }

    private static void whatATestIs() {
        bound("26: a TEST", Tables.RICH, "see(#,1,0,0)", 0, "5", 3, "5");
        bound("26: STRENGTH s (1 to 20)", Tables.RICH, "see(0,#,0,0)", 1, "5", 20, "5");
        bound("26: PULLED p times (0 to 20)", Tables.RICH, "see(0,1,#,0)", 0, "5", 20, "5");
        bound("26: YIELDED y (0 to 20)", Tables.RICH, "see(0,1,0,#)", 0, "5", 20, "5");
        bound("27: the first n", Tables.RICH, "forget(#)", 0, "4", 4, "4");
        bound("27: the first n", Tables.SEEN_FULL, "forget(#)", 0, "6", 6, "6");
        bound("27: the first n", Tables.BARE, "forget(#)", 0, "0", 0, "0");
        bound("28: a TEST", Tables.RICH, "kinds(#)", 0, "8", 3, "15");
        bound("29: a TEST", Tables.RICH, "ask(#,0)", 0, "NONE", 3, "5");
        bound("29: what", Tables.RICH, "ask(3,#)", 0, "5", 1, "1");
        bound("29: what, with none", Tables.RICH, "ask(0,#)", 0, "NONE", 1, "NONE");
        bound("30: a TEST", Tables.RICH, "arms(#,0,2,0)", 0, "1", 3, "8");
        bound("30: PULLED p times (0 to 20)", Tables.RICH, "arms(0,#,2,0)", 0, "1", 20, "0");
        bound("30: y (0 to 20)", Tables.RICH, "arms(3,0,#,0)", 0, "7", 20, "1");
        bound("30: what", Tables.RICH, "arms(3,0,2,#)", 0, "8", 2, "20");
        bound("30: what, there are none", Tables.RICH, "arms(0,20,2,#)", 0, "0", 2, "NONE");
    }

    private static void bySeed() {
        bound("31: n ACTS (1 to 60)", Tables.RICH, "drift(1,#,1)", 1, "1", 60, driftedLaughs(60));
        bound("31: what", Tables.RICH, "drift(1,1,#)", 0, "2", 1, "1");
        bound("31: n ACTS, no TESTS", Tables.BARE, "drift(1,#,0)", 1, "STATE", 60, "STATE");
        bound("31: what, no TESTS", Tables.BARE, "drift(1,1,#)", 0, "STATE", 1, "STATE");
        for (String seed : new String[] {"MIN", "-1", "0", "1", "MAX"}) {
            TABLES.make(Tables.BARE, "31: any seed").is("drift(" + seed + ",1,0)=STATE");
        }
    }

    /** The same evening by acts of the face, each chosen by the seed in whole numbers without wrap-around. */
    private static String driftedLaughs(int n) {
        Run run = TABLES.make(Tables.RICH, "31: act by act");
        long before = run.call("rule", 2);
        long seed = 1;
        for (int i = 0; i < n; i++) {
            seed = (seed * 1103515245L + 12345L) % (1L << 31);
            if (run.call("pull", (int) (seed / 65536 % 4)) < 0) {
                run.call("rest", 1);
            }
        }
        return String.valueOf(run.call("rule", 2) - before);
    }

    private static void imagesAndSheets() {
        bound("32: IMAGE k (0, 1)", Tables.RICH, "keep(#)", 0, "1", 1, "1");
        bound("32: IMAGE k (0, 1)", Tables.BARE, "keep(#)", 0, "0", 1, "0");
        bound("33: IMAGE k (0, 1)", Tables.RICH, "back(#)", 0, "7", 1, "7");
        bound("33: IMAGE k (0, 1)", Tables.BARE, "back(#)", 0, "STATE", 1, "STATE");
        bound("34: SHEETS 0 to 3", Tables.RICH, "sheet(#,0,1)", 0, "1", 3, "1");
        bound("34: lane 0, 1, 2", Tables.RICH, "sheet(0,#,1)", 0, "1", 2, "1");
        bound("34: 0 to 40 CELLS", Tables.RICH, "sheet(0,0,#)", 0, "1", 40, "1", "-14", "BAD");
        bound("34: 0 to 40 CELLS", Tables.BARE, "sheet(3,2,#)", 0, "1", 40, "1", "-14", "BAD");
        bound("34: SHEETS 0 to 3 ahead of SIZE", Tables.RICH, "sheet(#,0,-1)", 0, "-14", 3, "-14");
        bound("34: lane ahead of SIZE", Tables.RICH, "sheet(0,#,-1)", 0, "-14", 2, "-14");
        bound("35: SHEETS 0 to 3", Tables.RICH, "lay(#,0,0)", 0, "1", 3, "-11");
        bound("35: SHEETS 0 to 3, nothing", Tables.BARE, "lay(#,0,0)", 0, "-11", 3, "-11");
        bound("35: CELL i", Tables.RICH, "lay(0,#,0)", 0, "1", 2, "1", "-12", "-12");
        bound("35: CELL i", Tables.RICH, "lay(1,#,0)", 0, "1", 1, "1", "-12", "-12");
        bound("36: SHEETS 0 to 3", Tables.RICH, "read(#,0,1,1)", 0, "1", 3, "0");
        bound("36: lane 0, 1, 2", Tables.RICH, "read(0,#,1,1)", 0, "1", 2, "0");
        bound("36: n (0 to 20)", Tables.RICH, "read(0,0,1,#)", 0, "0", 20, "2");
        bound("36: SHEETS 0 to 3, nothing", Tables.BARE, "read(#,0,0,0)", 0, "0", 3, "0");
        bound("38: what", Tables.RICH, "count(#)", 0, "4", 5, "5");
        bound("38: what", Tables.BARE, "count(#)", 0, "0", 5, "0");
    }

    private static final String[] OF_A_TEST = {
        "test(#,0)", "test(#,4)", "alter(#,0,0)", "alter(#,1,99)", "alter(#,3,0)", "fill(#)", "plan(#)", "pull(#)",
        "ahead(#)", "need(#)", "least(#,1)", "hide(#,1)", "luck(1,#,1,0)", "mean(1,#,1,0)", "see(#,1,0,0)",
        "kinds(#)", "ask(#,0)", "arms(#,0,0,0)"};

    /** "BAD: there is no such TEST": with each number of TESTS the last is taken and the next is not. */
    private static void testsThatThereAre() {
        for (int tests = 0; tests <= 4; tests++) {
            for (String call : OF_A_TEST) {
                String name = "no such TEST of " + tests + ", " + call;
                if (tests > 0) {
                    Run last = new Run(DUE, name).tell("snake 9;".repeat(tests));
                    boolean taken = last.call(call.replace("#", String.valueOf(tests - 1))) != -1;
                    DUE.is(name + ": the last", taken ? 1 : 0, 1);
                }
                boolean rests = tests == 4 && call.equals("plan(#)");
                Run beyond = new Run(DUE, name).tell("snake 9;".repeat(tests));
                beyond.is(call.replace("#", String.valueOf(tests)) + (rests ? "=1" : "=BAD"));
                if (!rests) {
                    TABLES.same(name, Trace.of(beyond), Trace.of(new Run(DUE, name).tell("snake 9;".repeat(tests))));
                }
            }
        }
    }

    /** act(), cut(), forget(), end() go as far as there is something, however much that is. */
    private static void whatThereIsSoFar() {
        for (int n = 0; n <= 8; n++) {
            Run run = new Run(DUE, "8 and 13: of " + n + " ACTS").tell("plan" + " 4".repeat(n) + ";");
            run.is("act(" + (n - 1) + ")=" + (n > 0 ? "4" : "BAD") + " act(" + n + ")=BAD");
            run.is("cut(" + (n + 1) + ")=BAD rule(3)=" + n + " cut(" + n + ")=" + n + " rule(3)=" + n);
        }
        for (int n = 0; n <= 6; n++) {
            Run run = new Run(DUE, "27: of " + n + " SEEN").tell("sea 9;");
            for (int i = 1; i <= n; i++) {
                run.is("see(0,1,0,0)=" + i);
            }
            run.is("forget(" + (n + 1) + ")=BAD count(0)=" + n + " forget(" + n + ")=" + n + " count(0)=" + n);
        }
        for (int n = 0; n <= 160; n += 40) {
            Run run = new Run(DUE, "3: of " + n + " bytes").write(" ".repeat(n));
            run.is("end(" + (n + 1) + ")=BAD count(2)=" + n + " end(" + n + ")=" + n + " count(2)=" + n);
        }
    }
}
