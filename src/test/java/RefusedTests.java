/**
 * What is refused changes nothing (but THE TAPE, as told), whichever way it is refused; of several answers the
 * first that fits; and what is only asked changes nothing either.
 */
public final class RefusedTests {
    private static final Due DUE = new Due();
    private static final Tables TABLES = new Tables(DUE);

    private static final String[] CHANGES = {
        "feed(32)=7", "end(5)=6", "text()=1", "alter(0,0,1)=0", "alter(3,1,26)=25", "alter(2,3,1)=0",
        "strong(12)=11", "fill(0)=3", "cut(7)=8", "pull(0)=11", "pull(2)=1", "rest(1)=13", "see(0,1,0,0)=5",
        "see(3,10,0,10)=5", "forget(3)=4", "forget(1)=4", "keep(0)=1", "keep(1)=1", "back(0)=7", "back(1)=7",
        "sheet(0,0,3)=1", "sheet(0,0,4)=1", "sheet(1,2,2)=1", "sheet(2,2,1)=1", "sheet(2,1,0)=1", "sheet(3,0,0)=1",
        "lay(0,0,2)=1", "lay(0,2,4)=1", "lay(1,1,0)=1", "read(0,0,1,1)=1", "read(0,0,3,1)=0", "read(3,0,0,1)=0",
        "read(0,0,0,0)=0"};

    public static void main(String[] args) {
        aChangeIsSeen();
        full();
        state();
        none();
        faults();
        theFirstThatFits();
        onNothing();
        whatIsOnlyAsked();
        severalInARow();
        DUE.end();
    }

    /** If a trace did not show each change, the tests that nothing has changed would be worth nothing. */
    private static void aChangeIsSeen() {
        String s = "a change that is not seen";
        for (String change : CHANGES) {
            Run changed = TABLES.make(Tables.RICH, s).is(change);
            TABLES.differs(s + ": " + change, Trace.of(changed), Trace.of(TABLES.make(Tables.RICH, s)));
        }
        Run planned = TABLES.make(Tables.ROOM, s).is("plan(4)=8");
        TABLES.differs(s + ": an ACT", Trace.of(planned), Trace.of(TABLES.make(Tables.ROOM, s)));
    }

    private static void full() {
        TABLES.refused("2: FULL: more than 160", Tables.TAPE_FULL, "feed(0)=FULL feed(32)=FULL feed(59)=FULL "
            + "feed(127)=FULL");
        TABLES.refused("12: FULL", Tables.RICH, "plan(0)=FULL plan(3)=FULL plan(4)=FULL");
        TABLES.refused("26: FULL", Tables.SEEN_FULL, "see(0,1,0,0)=FULL see(3,20,20,20)=FULL");
    }

    private static void state() {
        TABLES.refused("9: STATE: SIZE would be less than is MOVED", Tables.RICH, "alter(0,1,2)=STATE "
            + "alter(1,1,8)=STATE alter(2,1,1)=STATE");
        TABLES.refused("14: STATE: it is WON", Tables.RICH, "pull(1)=STATE");
        TABLES.refused("14: STATE: no STRENGTH", Tables.WEAK, "pull(0)=STATE pull(1)=STATE pull(2)=STATE "
            + "pull(3)=STATE");
        TABLES.refused("31: STATE: there are no TESTS", Tables.BARE, "drift(1,1,0)=STATE drift(MIN,60,1)=STATE");
        TABLES.refused("33: STATE: there is none", Tables.BARE, "back(0)=STATE back(1)=STATE");
        TABLES.refused("33: STATE: there is none", Tables.TAPE_FULL, "back(0)=STATE back(1)=STATE");
    }

    private static void none() {
        TABLES.refused("16: NONE", Tables.BARE, "runs(4)=NONE");
        TABLES.refused("18: NONE: it is not", Tables.RICH, "need(2)=NONE need(3)=NONE");
        TABLES.refused("18: NONE: it is not", Tables.WEAK, "need(0)=NONE need(2)=NONE need(3)=NONE");
        TABLES.refused("19: NONE: from none", Tables.RICH, "least(0,0)=NONE least(2,20)=NONE");
        TABLES.refused("20: NONE: not so many", Tables.RICH, "best(0,10)=NONE best(2,12)=NONE best(4,14)=NONE");
        TABLES.refused("21: NONE: as each it is", Tables.RICH, "hide(1,0)=NONE hide(1,20)=NONE");
        TABLES.refused("22: NONE: by none", Tables.BARE, "swap(0)=NONE swap(1)=NONE");
        TABLES.refused("23: NONE: none", Tables.BARE, "unmask(0)=NONE unmask(1)=NONE");
        TABLES.refused("29: NONE: with none", Tables.RICH, "ask(0,0)=NONE ask(0,1)=NONE ask(1,0)=NONE");
        TABLES.refused("30: NONE: there are none", Tables.RICH, "arms(0,20,20,1)=NONE arms(0,20,20,2)=NONE");
        TABLES.refused("38: NONE: nothing", Tables.BARE, "count(3)=NONE");
    }

    private static void faults() {
        TABLES.refused("34: SIZE (below 0)", Tables.RICH, "sheet(0,0,-1)=-14 sheet(3,2,-1)=-14 sheet(0,2,MIN)=-14");
        TABLES.refused("35: NULL", Tables.RICH, "lay(3,0,0)=-11 lay(3,-1,5)=-11 lay(3,MAX,5)=-11");
        TABLES.refused("35: INDEX", Tables.RICH, "lay(0,3,5)=-12 lay(0,-1,5)=-12 lay(2,0,5)=-12 lay(0,MIN,5)=-12 "
            + "lay(0,MAX,5)=-12");
        TABLES.refused("36: the i-th is refused by pull()", Tables.RICH, "read(0,0,0,1)=-20 read(0,0,0,3)=-20 "
            + "read(1,1,0,2)=-21 read(1,1,1,1)=-20 read(1,1,0,20)=-21");
        TABLES.refused("36: the i-th is refused by pull()", Tables.WEAK, "read(0,0,1,1)=-20 read(0,0,1,2)=-20 "
            + "read(1,1,0,1)=-20");
    }

    private static void theFirstThatFits() {
        String s = "BAD ahead of the others";
        TABLES.refused(s, Tables.TAPE_FULL, "feed(-1)=BAD feed(128)=BAD");
        TABLES.refused(s, Tables.RICH, "plan(-1)=BAD plan(5)=BAD alter(0,1,0)=BAD alter(1,1,100)=BAD");
        TABLES.refused(s, Tables.WEAK, "pull(4)=BAD pull(-1)=BAD need(4)=BAD least(2,21)=BAD least(4,0)=BAD");
        TABLES.refused(s, Tables.SEEN_FULL, "see(4,1,0,0)=BAD see(-1,1,0,0)=BAD see(0,0,0,0)=BAD see(0,21,0,0)=BAD "
            + "see(0,1,-1,0)=BAD see(0,1,21,0)=BAD see(0,1,0,-1)=BAD see(0,1,0,21)=BAD");
        TABLES.refused(s, Tables.BARE, "drift(1,0,0)=BAD drift(1,61,0)=BAD drift(1,1,-1)=BAD drift(1,1,2)=BAD "
            + "back(-1)=BAD back(2)=BAD swap(-1)=BAD swap(2)=BAD unmask(-1)=BAD unmask(2)=BAD best(5,10)=BAD "
            + "best(-1,10)=BAD count(6)=BAD");
        TABLES.refused(s, Tables.RICH, "hide(1,21)=BAD hide(4,0)=BAD ask(0,2)=BAD ask(4,0)=BAD arms(0,20,20,3)=BAD "
            + "arms(0,21,20,1)=BAD arms(0,20,21,2)=BAD arms(4,20,20,1)=BAD");
        TABLES.refused(s, Tables.RICH, "sheet(4,0,-1)=BAD sheet(0,3,-1)=BAD lay(4,99,0)=BAD lay(-1,-1,0)=BAD "
            + "read(4,0,0,1)=BAD read(0,3,0,1)=BAD read(0,0,0,21)=BAD read(3,1,-1,-1)=BAD");
    }

    private static void onNothing() {
        TABLES.refused("BAD: there is no such TEST", Tables.BARE, "test(0,0)=BAD alter(0,0,0)=BAD alter(0,1,1)=BAD "
            + "alter(0,3,0)=BAD fill(0)=BAD plan(0)=BAD pull(0)=BAD ahead(0)=BAD need(0)=BAD least(0,0)=BAD "
            + "hide(0,0)=BAD luck(0,0,0,0)=BAD mean(0,0,0,0)=BAD see(0,1,0,0)=BAD kinds(0)=BAD ask(0,0)=BAD "
            + "arms(0,0,0,0)=BAD act(0)=BAD");
        TABLES.refused("nothing to be cut, forgotten, ended, rested", Tables.BARE, "cut(0)=0 forget(0)=0 end(0)=0 "
            + "rest(0)=10 text()=0 read(0,0,0,0)=0");
    }

    private static void whatIsOnlyAsked() {
        String s = "what is only asked changes nothing";
        TABLES.refused(s, Tables.RICH, "fault()=1 torn()=3 rule(0)=4 rule(4)=2 test(0,4)=11 act(3)=2 count(0)=4 "
            + "count(3)=3");
        TABLES.refused(s, Tables.RICH, "runs(0)=3 runs(1)=43 runs(2)=10 runs(3)=2 runs(4)=1 ahead(0)=20 ahead(2)=3 "
            + "need(0)=2 need(1)=0 least(0,20)=6 least(3,20)=15");
        TABLES.refused(s, Tables.RICH, "best(4,0)=2 best(4,1)=42 best(4,10)=3 hide(0,20)=2 swap(0)=7 swap(1)=1 "
            + "unmask(0)=2 unmask(1)=54");
        TABLES.refused(s, Tables.RICH, "luck(5,0,2,0)=1 luck(5,0,2,1)=4 mean(5,0,1,0)=17 mean(5,0,1,1)=2 "
            + "luck(3,3,8,0)=0 mean(10,2,8,0)=2");
        TABLES.refused(s, Tables.RICH, "kinds(0)=8 kinds(3)=15 ask(3,0)=5 ask(3,1)=1 arms(3,0,2,0)=8 arms(3,0,2,1)=2 "
            + "arms(3,0,2,2)=20");
        TABLES.refused(s, Tables.RICH, "drift(1,1,0)=2 drift(1,1,1)=1");
        TABLES.refused("what changes to what it was", Tables.RICH, "end(6)=6 cut(8)=8 forget(4)=4 rest(0)=11 "
            + "strong(11)=11 alter(0,0,0)=0 alter(0,1,20)=20 alter(0,3,1)=1");
    }

    /** What a refused call may have left behind inside must not show in the calls behind it. */
    private static void severalInARow() {
        String s = "refused calls in a row";
        Run run = TABLES.make(Tables.RICH, s);
        run.is("pull(1)=STATE pull(4)=BAD plan(4)=FULL alter(1,1,8)=STATE read(1,1,0,2)=-21 read(0,0,0,3)=-20 "
            + "lay(0,3,1)=-12 lay(3,0,1)=-11 sheet(0,0,-1)=-14 sheet(0,0,41)=BAD back(2)=BAD keep(2)=BAD "
            + "see(0,0,0,0)=BAD forget(5)=BAD cut(9)=BAD end(7)=BAD feed(128)=BAD strong(21)=BAD rest(21)=BAD "
            + "fill(4)=BAD drift(1,61,0)=BAD best(4,9)=BAD");
        TABLES.same(s, Trace.of(run), Trace.of(TABLES.make(Tables.RICH, s)));
    }
}
