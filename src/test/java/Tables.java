import java.util.List;

/** Objects as they stand before a call that is tested, and the tests that nothing has changed behind it. */
final class Tables {
    /** A new object. */
    static final int BARE = 0;
    /** Something of everything: a test won and others not, a full plan, seen, images, sheets, faults, a tape. */
    static final int RICH = 1;
    /** As RICH, with room for one ACT more. */
    static final int ROOM = 2;
    /** As RICH, with six SEEN. */
    static final int SEEN_FULL = 3;
    /** A tape of 160 bytes. */
    static final int TAPE_FULL = 4;
    /** As RICH, with no STRENGTH. */
    static final int WEAK = 5;

    private static final String RICH_TEXT =
        "plain 20 3 1;snake 9 9 2;sea 60 2;age 25 0 2;guest 11;laughs 7;plan 0 1 4 2 3 3 0 4;";

    private final Due due;

    Tables(Due due) {
        this.due = due;
    }

    Run make(int table, String sentence) {
        Run run = new Run(due, sentence);
        switch (table) {
            case BARE:
                return run;
            case TAPE_FULL:
                return run.tell("sea 3;").write("guest 7;" + " ".repeat(152));
            case ROOM:
                return rich(run).is("cut(7)=8");
            case SEEN_FULL:
                return rich(run).is("see(1,9,0,4)=5 see(3,9,9,9)=6");
            case WEAK:
                return rich(run).is("strong(0)=11");
            default:
                return rich(run);
        }
    }

    /** Sheets of RICH and what was found in them: all that a text leaves as it is. */
    static Run sheets(Run run) {
        run.is("sheet(0,0,3)=1 lay(0,0,1)=1 lay(0,1,2)=1 lay(0,2,3)=1");
        run.is("sheet(1,1,2)=1 lay(1,0,3)=1 lay(1,1,-1)=1 sheet(2,2,0)=1");
        return run.is("read(0,1,0,1)=0");
    }

    private static Run rich(Run run) {
        run.tell(RICH_TEXT);
        run.is("strong(15)=11 alter(2,1,61)=60 cut(7)=8 alter(3,3,5)=2 keep(0)=0");
        run.is("alter(2,1,60)=61 plan(4)=8 alter(3,3,2)=5 strong(13)=15 keep(1)=0 strong(11)=13");
        run.is("see(0,10,0,10)=1 see(1,10,0,5)=2 see(2,16,7,2)=3 see(0,10,1,8)=4");
        sheets(run).is("feed(35)=1 text()=-10");
        return run.write("sea 3;");
    }

    /** Each call, on an object of its own, has its answer. */
    void taken(String sentence, int table, String rows) {
        for (String row : rows.trim().split("\\s+")) {
            make(table, sentence).is(row);
        }
    }

    /** Each call, on an object of its own, has its answer, and nothing is other than if it had not been. */
    void refused(String sentence, int table, String rows) {
        List<String> before = Trace.of(make(table, sentence));
        for (String row : rows.trim().split("\\s+")) {
            Run called = make(table, sentence).is(row);
            same(sentence + ": nothing changes by " + row, Trace.of(called), before);
        }
    }

    void same(String what, List<String> got, List<String> want) {
        String first = "";
        for (int i = 0; i < Math.max(got.size(), want.size()) && first.isEmpty(); i++) {
            String a = i < got.size() ? got.get(i) : "nothing";
            String b = i < want.size() ? want.get(i) : "nothing";
            first = a.equals(b) ? "" : ", first " + a + " in place of " + b;
        }
        due.is(what + first, first.isEmpty() ? 1 : 0, 1);
    }

    void differs(String what, List<String> got, List<String> other) {
        due.is(what, got.equals(other) ? 0 : 1, 1);
    }
}
