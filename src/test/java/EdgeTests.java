/** Each sentence of the terms and of promises 1 and 6 to 38 that names an edge, with answers reckoned by hand. */
public final class EdgeTests {
    private static final Due DUE = new Due();

    public static void main(String[] args) {
        aNewObject();
        yields();
        won();
        pullsAtTheirEdges();
        laughsByYield();
        laughsHaveAnEnd();
        rests();
        alterFillPlanCut();
        byThePlan();
        alone();
        leastStrength();
        bestRows();
        hidden();
        swapped();
        unmasked();
        fractions();
        lucks();
        means();
        seen();
        asked();
        armsThatYielded();
        drifted();
        images();
        sheets();
        laidBits();
        readings();
        tornReadings();
        counts();
        allOf512Calls();
        DUE.end();
    }

    private static Run run(String sentence) {
        return new Run(DUE, sentence);
    }

    private static Run told(String sentence, String text) {
        return run(sentence).tell(text);
    }

    private static void aNewObject() {
        run("1: no TESTS, STRENGTH 10 at first, LAUGHS 0, no ACTS")
            .is("rule(0)=0 rule(1)=10 rule(2)=0 rule(3)=0 rule(4)=0 rule(5)=0 test(0,0)=BAD act(0)=BAD fault()=0 "
                + "torn()=0");
        run("1: nothing SEEN, no IMAGES, nothing on THE TAPE")
            .is("count(0)=0 count(1)=0 count(2)=0 count(4)=0 count(5)=0 back(0)=STATE back(1)=STATE end(0)=0 "
                + "forget(0)=0 cut(0)=0");
        run("1: SHEETS have nothing").is("count(3)=NONE lay(0,0,0)=-11 lay(1,0,0)=-11 lay(2,0,0)=-11 lay(3,0,0)=-11");
        for (int k = 0; k < 4; k++) {
            for (int lane = 0; lane < 3; lane++) {
                run("1: SHEETS have nothing").is("read(" + k + "," + lane + ",0,1)=0 torn()=1");
            }
        }
        run("1: the answers").is("rule(-1)=" + HornTests.BAD + " drift(0,1,0)=" + HornTests.STATE + " swap(0)="
            + HornTests.NONE);
        run("1: the answers").write(" ".repeat(160)).is("feed(0)=" + HornTests.FULL);
    }

    private static void yields() {
        Run run = told("YIELD", "plain 99;snake 99;sea 99;age 99;");
        int was = 10;
        for (int s = 0; s <= 20; s++) {
            int sea = s < 8 ? 0 : s < 16 ? 1 : 2;
            run.is("strong(" + s + ")=" + was + " test(0,4)=" + s + " test(1,4)=" + (s - (s + 1) / 2)
                + " test(2,4)=" + sea + " test(3,4)=" + s);
            was = s;
        }
        told("YIELD of a snake: half, down", "snake 9;guest 1;")
            .is("test(0,4)=0 strong(2)=1 test(0,4)=1 strong(3)=2 test(0,4)=1 strong(19)=3 test(0,4)=9 strong(20)=19 "
                + "test(0,4)=10 strong(0)=20 test(0,4)=0");
        told("YIELD of a sea: a quarter of a snake's, down", "sea 9;guest 7;")
            .is("test(0,4)=0 strong(8)=7 test(0,4)=1 strong(15)=8 test(0,4)=1 strong(16)=15 test(0,4)=2 strong(20)=16 "
                + "test(0,4)=2");
        told("YIELD of an age: less twice PULLED, 0 at least", "age 9 0 5;guest 11;")
            .is("test(0,4)=1 strong(10)=11 test(0,4)=0 strong(9)=10 test(0,4)=0 strong(0)=9 test(0,4)=0 strong(20)=0 "
                + "test(0,4)=10 alter(0,3,9)=5 test(0,4)=2 alter(0,3,10)=9 test(0,4)=0 alter(0,3,11)=10 test(0,4)=0 "
                + "alter(0,3,99)=11 test(0,4)=0 alter(0,3,0)=99 test(0,4)=20");
        told("YIELD of all but an age, however often PULLED", "plain 9 0 99;snake 9 0 99;sea 9 0 99;guest 20;")
            .is("test(0,4)=20 test(1,4)=10 test(2,4)=2");
    }

    private static void won() {
        told("WON is a TEST of which all is MOVED", "plain 9 9;plain 9 8;plain 1 1;plain 1 0;")
            .is("rule(4)=5 alter(1,1,8)=9 rule(4)=7 alter(0,1,10)=9 rule(4)=6 fill(2)=1 rule(4)=2 need(1)=0 need(0)=1");
        for (int t = 0; t < 4; t++) {
            String text = "sea 5;".repeat(t) + "sea 5 5;" + "sea 5;".repeat(3 - t);
            told("6: TESTS that are WON (bits)", text)
                .is("rule(4)=" + (1 << t) + " runs(0)=" + (1 << t) + " drift(3,1,0)=" + (1 << t));
        }
        told("6: TESTS that are WON (bits)", "sea 5 5;sea 5 5;sea 5 5;sea 5 5;").is("rule(4)=15 rule(5)=20");
        told("6: all that is MOVED", "sea 99 99;age 99 99;plain 99 99;snake 99 99;")
            .is("rule(5)=396 rule(4)=15 count(4)=396");
    }

    private static void pullsAtTheirEdges() {
        told("14: STRENGTH 1", "plain 9;guest 1;").is("pull(0)=1 rule(1)=0 pull(0)=STATE test(0,2)=1 test(0,3)=1");
        told("14: STRENGTH 0", "plain 9;guest 0;").is("pull(0)=STATE rest(1)=2 pull(0)=2 rule(1)=1");
        told("14: STRENGTH 1 may YIELD nothing", "snake 9;guest 1;")
            .is("pull(0)=0 rule(1)=0 rule(2)=1 test(0,3)=1 test(0,2)=0");
        told("14: a TEST that is WON", "plain 9 9;plain 9 8;")
            .is("pull(0)=STATE rule(1)=10 pull(1)=1 pull(1)=STATE rule(1)=9 test(0,3)=0 test(1,3)=1");
        told("14: YIELD one less than is left", "plain 11;").is("pull(0)=10 rule(4)=0 test(0,2)=10");
        told("14: YIELD just what is left", "plain 10;").is("pull(0)=10 rule(4)=1 test(0,2)=10 pull(0)=STATE");
        told("14: SIZE at most", "plain 9;").is("pull(0)=9 rule(4)=1 test(0,2)=9");
        told("14: SIZE at most", "plain 99 98;guest 20;").is("pull(0)=1 test(0,2)=99");
        told("14: PULLED 99 at most", "plain 99 0 98;")
            .is("pull(0)=10 test(0,3)=99 pull(0)=9 test(0,3)=99 count(5)=99");
        told("14: no such TEST ahead of no STRENGTH", "plain 9;guest 0;").is("pull(1)=BAD pull(-1)=BAD pull(0)=STATE");
        told("14: a PULL at one TEST leaves the others", "plain 99;plain 99;plain 99;plain 99;guest 9;")
            .is("pull(2)=9 test(0,2)=0 test(1,2)=0 test(2,2)=9 test(3,2)=0 test(1,3)=0 test(3,3)=0 test(2,3)=1 "
                + "rule(1)=8");
    }

    private static void laughsByYield() {
        for (int s = 1; s <= 20; s++) {
            String guest = "guest " + s + ";";
            told("LAUGHS at a plain one never", "plain 99;" + guest).is("pull(0)=" + s + " rule(2)=0");
            told("LAUGHS at a snake if STRENGTH is odd", "snake 99;" + guest)
                .is("pull(0)=" + s / 2 + " rule(2)=" + s % 2);
            told("LAUGHS at a sea always", "sea 99;" + guest).is("pull(0)=" + s / 8 + " rule(2)=1");
        }
        told("twice YIELD is STRENGTH: none laughs", "age 99 0 1;guest 4;").is("pull(0)=2 rule(2)=0");
        told("twice YIELD is 1 less: LAUGHS are 1 more", "age 99 0 1;guest 3;").is("pull(0)=1 rule(2)=1");
        told("twice YIELD is STRENGTH: none laughs", "age 99 0 5;guest 20;").is("pull(0)=10 rule(2)=0");
        told("twice YIELD is 1 less: LAUGHS are 1 more", "age 99 0 5;guest 19;").is("pull(0)=9 rule(2)=1");
        told("LAUGHS by YIELD, not by what is MOVED", "plain 1;guest 20;").is("pull(0)=1 rule(2)=0");
        told("LAUGHS by STRENGTH ahead of the PULL", "snake 99;guest 2;")
            .is("pull(0)=1 rule(2)=0 rule(1)=1 pull(0)=0 rule(2)=1");
        told("LAUGHS by PULLED ahead of the PULL", "age 99 0 0;guest 1;").is("pull(0)=1 rule(2)=0");
        told("LAUGHS of before count on", "sea 99;laughs 99;").is("pull(0)=1 rule(2)=100");
    }

    /** 44 rows of 20 pulls at an age that gives nothing, and some: LAUGHS come to so many. */
    private static Run laughedAt(String sentence, int laughs) {
        Run run = told(sentence, "age 99 0 99;laughs 99;plan 0 0 4;").is("sheet(0,0,20)=1");
        for (int left = laughs - 99; left > 0; left -= 20) {
            run.call("strong", 20);
            run.call("read", 0, 0, 0, Math.min(20, left));
        }
        run.call("strong", 20);
        return run.is("rule(2)=" + laughs);
    }

    private static void laughsHaveAnEnd() {
        laughedAt("LAUGHS (0 to 999), the last", 998).is("runs(3)=1 drift(1,2,1)=1 swap(0)=NONE pull(0)=0 rule(2)=999");
        laughedAt("LAUGHS (0 to 999), no more", 999)
            .is("pull(0)=0 rule(2)=999 rule(1)=19 runs(3)=0 drift(1,20,1)=0 swap(0)=NONE swap(1)=NONE read(0,0,0,9)=9 "
                + "rule(2)=999 keep(1)=0 back(1)=999 rule(2)=999");
        laughedAt("LAUGHS (0 to 999), two short", 997)
            .is("runs(3)=2 pull(0)=0 pull(0)=0 rule(2)=999 pull(0)=0 rule(2)=999");
    }

    private static void rests() {
        run("15: a REST, 20 at most")
            .is("strong(17)=10 rest(1)=19 rest(1)=20 rest(1)=20 rule(1)=20 strong(18)=20 rest(1)=20 strong(0)=20 "
                + "rest(1)=2 rest(0)=2 rest(9)=20 strong(0)=20 rest(10)=20 strong(0)=20 rest(8)=16 strong(1)=16 "
                + "rest(20)=20 strong(0)=20 rest(20)=20");
        told("15: RESTS change STRENGTH alone", "age 9 1 1;laughs 5;plan 4;")
            .is("rest(3)=16 test(0,2)=1 test(0,3)=1 rule(2)=5 rule(3)=1");
    }

    private static void alterFillPlanCut() {
        told("9: what it was", "plain 20 8 3;")
            .is("alter(0,0,0)=0 alter(0,0,1)=0 alter(0,0,2)=1 alter(0,0,3)=2 alter(0,0,0)=3 alter(0,1,20)=20 "
                + "alter(0,1,8)=20 rule(4)=1 alter(0,1,9)=8 rule(4)=0 alter(0,3,3)=3 alter(0,3,99)=3 alter(0,3,0)=99 "
                + "test(0,2)=8");
        told("9: nothing MOVED, SIZE 1", "plain 20;").is("alter(0,1,1)=20 rule(4)=0 test(0,1)=1 alter(0,1,0)=BAD");
        told("9: the others stay", "plain 20;plain 20;plain 20;")
            .is("alter(1,0,3)=0 alter(1,1,50)=20 alter(1,3,7)=0 test(0,0)=0 test(0,1)=20 test(0,3)=0 test(2,0)=0 "
                + "test(2,1)=20 test(2,3)=0");
        told("11: how much was MOVED", "sea 9 9 9;sea 9 5 99;sea 9;")
            .is("fill(0)=9 test(0,2)=0 test(0,3)=0 rule(4)=0 fill(0)=0 fill(2)=0 test(1,2)=5 test(1,3)=99 fill(1)=5 "
                + "count(5)=0 test(1,1)=9 test(1,0)=2");
        told("12: 8 ACTS, FULL", "sea 9;")
            .is("plan(0)=1 plan(4)=2 plan(0)=3 plan(4)=4 plan(0)=5 plan(4)=6 plan(0)=7 plan(4)=8 plan(0)=FULL "
                + "plan(4)=FULL plan(1)=BAD plan(5)=BAD plan(-1)=BAD rule(3)=8 act(6)=0 act(7)=4 cut(7)=8 plan(0)=8 "
                + "act(7)=0");
        told("13: its first n ACTS alone", "sea 9;plan 0 4 4 0;")
            .is("cut(4)=4 cut(3)=4 act(3)=BAD act(2)=4 cut(4)=BAD cut(0)=3 act(0)=BAD plan(4)=1 act(0)=4 act(1)=BAD");
    }

    private static void byThePlan() {
        told("16: no ACTS", "sea 9 9;sea 9 2;laughs 3;")
            .is("runs(0)=1 runs(1)=11 runs(2)=10 runs(3)=0 runs(4)=NONE ahead(0)=9 ahead(1)=2");
        told("16: the first ACT that can not be is the first", "sea 9 9;plan 0 4;").is("runs(4)=0 runs(2)=12");
        told("16: the first ACT that can not be is the last", "sea 9 9;plan 4 4 4 4 4 4 4 0;")
            .is("runs(4)=7 runs(2)=20");
        told("16: all can be", "plain 99;guest 8;plan 0 0 0 0 0 0 0 0;")
            .is("runs(4)=NONE runs(1)=36 runs(2)=0 runs(3)=0");
        told("16: STRENGTH ends one short", "plain 99;guest 7;plan 0 0 0 0 0 0 0 0;")
            .is("runs(4)=7 runs(1)=28 runs(2)=0");
        told("16: no STRENGTH", "plain 99;guest 0;plan 0 0 4 0;").is("runs(4)=0 runs(1)=2 runs(2)=1");
        told("16: WON on the way", "plain 10;plan 0 0 0;").is("runs(0)=1 runs(4)=1 runs(2)=9 runs(1)=10");
        told("16: RESTS, 20 at most", "sea 9;guest 19;plan 4;")
            .is("runs(2)=20 runs(4)=NONE strong(18)=19 runs(2)=20 strong(17)=18 runs(2)=19");
        told("16: LAUGHS more than now", "sea 99;laughs 50;plan 0 0 4;").is("runs(3)=2 rule(2)=50");
        told("16: from now on", "plain 99;plan 0;")
            .is("runs(1)=10 pull(0)=10 runs(1)=19 runs(1)=19 rule(5)=10 rule(1)=9 test(0,3)=1");
        told("17: SIZE at most", "plain 10;plain 11;plain 5 3;guest 10;plan 0;")
            .is("ahead(0)=10 ahead(1)=0 ahead(2)=3 plan(1)=2 ahead(1)=9 ahead(0)=10 plan(1)=3 ahead(1)=11");
    }

    private static void alone() {
        told("18: 0: it is", "plain 5 5;guest 0;").is("need(0)=0 strong(20)=0 need(0)=0");
        told("18: no STRENGTH", "plain 5 4;guest 0;").is("need(0)=NONE strong(1)=0 need(0)=1");
        told("18: just WON by the last PULL, one short", "plain 55;plain 56;plain 56 1;")
            .is("need(0)=10 need(1)=NONE need(2)=10");
        told("18: just WON by one PULL, one short", "plain 10;plain 11;").is("need(0)=1 need(1)=2");
        told("18: a snake", "snake 99;snake 98;guest 20;").is("need(0)=18 need(1)=17 strong(19)=20 need(0)=NONE");
        told("18: a sea", "sea 18;sea 19;guest 20;").is("need(0)=13 need(1)=NONE strong(19)=20 need(0)=NONE");
        told("18: an age", "age 77;age 78;guest 20;").is("need(0)=7 need(1)=NONE alter(0,3,1)=0 need(0)=NONE");
        told("18: PULLED counts from what it is", "age 18 0 1;age 19 0 10;guest 20;")
            .is("need(0)=1 alter(0,1,19)=18 need(0)=2 need(1)=NONE");
        told("18: no RESTS, and nothing is pulled", "plain 11;guest 4;")
            .is("need(0)=NONE rule(1)=4 test(0,2)=0 test(0,3)=0");
    }

    private static void leastStrength() {
        told("19: WON, from STRENGTH 0 by 0 PULLS", "plain 5 5;guest 0;").is("least(0,0)=0 least(0,20)=0");
        told("19: not WON, by 0 PULLS", "plain 5 4;").is("least(0,0)=NONE least(0,1)=1");
        told("19: STRENGTH 20, from none", "plain 20;plain 21;").is("least(0,1)=20 least(1,1)=NONE least(1,2)=11");
        told("19: n PULLS or fewer", "plain 99;")
            .is("least(0,5)=NONE least(0,6)=19 least(0,7)=18 least(0,13)=14 least(0,14)=14 least(0,20)=14");
        told("19: a snake", "snake 99;").is("least(0,17)=NONE least(0,18)=20 least(0,20)=20");
        told("19: a sea", "sea 18;sea 1;sea 19;")
            .is("least(0,12)=NONE least(0,13)=20 least(1,1)=8 least(1,20)=8 least(2,20)=NONE");
        told("19: an age", "age 77;age 1 0 9;age 1 0 10;")
            .is("least(0,6)=NONE least(0,7)=20 least(1,1)=19 least(2,20)=NONE");
        told("19: whatever STRENGTH is", "plain 3;guest 0;")
            .is("least(0,1)=3 strong(20)=0 least(0,1)=3 least(0,2)=2 rule(1)=20");
    }

    private static void bestRows() {
        told("20: a row of 0 ACTS", "plain 9 9;plain 9 2;").is("best(0,0)=1 best(0,1)=11 best(0,10)=NONE");
        run("20: no TESTS").is("best(1,0)=0 best(1,1)=0 best(1,10)=4 best(4,13)=4 best(4,1)=0");
        told("20: all are WON, the first row", "sea 1 1;sea 1 1;")
            .is("best(4,0)=2 best(4,1)=2 best(4,10)=0 best(4,11)=0 best(4,12)=0 best(4,13)=0");
        told("20: no STRENGTH", "plain 9;guest 0;")
            .is("best(1,1)=0 best(1,10)=0 best(2,1)=2 best(2,10)=4 best(2,11)=0 best(3,1)=4 best(3,10)=4 best(3,11)=4 "
                + "best(3,12)=0 best(4,0)=0 best(4,1)=7 best(4,10)=4 best(4,11)=4 best(4,12)=0 best(4,13)=0");
        told("20: most TESTS ahead of most MOVED", "plain 99;plain 1;guest 9;")
            .is("best(1,0)=1 best(1,1)=1 best(1,10)=1 best(2,0)=1 best(2,1)=10 best(2,10)=0 best(2,11)=1");
        told("20: most is MOVED, of several most WON", "plain 4;plain 9;guest 9;")
            .is("best(1,0)=1 best(1,1)=9 best(1,10)=1");
        told("20: the first, TESTS by order", "plain 99;plain 99;guest 9;")
            .is("best(1,10)=0 best(2,10)=0 best(2,11)=0 best(2,1)=17");
        told("20: the first, a TEST ahead of a REST", "sea 99;guest 20;").is("best(1,10)=0 best(1,1)=2");
        told("20: a PULL that can not be ahead of a REST", "plain 5 5;").is("best(2,10)=0 best(2,11)=0 best(2,0)=1");
        told("20: four TESTS, four ACTS", "plain 1;plain 1;plain 1;plain 1;guest 4;")
            .is("best(4,0)=4 best(4,1)=4 best(4,10)=0 best(4,11)=1 best(4,12)=2 best(4,13)=3 best(3,0)=3 best(3,12)=2 "
                + "best(3,13)=NONE strong(3)=4 best(4,0)=3 best(4,10)=0 best(4,11)=0 best(4,12)=1 best(4,13)=2");
        told("20: only the REST at the end of the order helps", "plain 3;guest 1;")
            .is("best(2,0)=1 best(2,10)=4 best(2,11)=0 best(1,0)=0 best(1,1)=1 best(1,10)=0");
    }

    private static void hidden() {
        told("21: as each it is: WON before", "sea 5 5;guest 0;").is("hide(0,0)=NONE hide(0,20)=NONE");
        told("21: by 0 PULLS", "sea 5 4;guest 20;").is("hide(0,0)=0 hide(0,1)=NONE");
        told("21: the first KIND is plain", "age 11;").is("hide(0,1)=0 hide(0,2)=1");
        told("21: the first KIND is a snake", "age 10;").is("hide(0,1)=1 hide(0,2)=1 hide(0,3)=2");
        told("21: the first KIND is a sea", "plain 1;guest 7;")
            .is("hide(0,1)=2 hide(0,20)=2 strong(8)=7 hide(0,1)=NONE");
        told("21: the first KIND is an age", "plain 1 0 4;guest 8;")
            .is("hide(0,1)=3 hide(0,20)=3 strong(9)=8 hide(0,1)=NONE test(0,0)=0");
        told("21: no STRENGTH", "plain 1;guest 0;").is("hide(0,20)=0 alter(0,0,3)=0 hide(0,20)=0");
        told("21: by n PULLS or fewer", "plain 18;guest 20;")
            .is("hide(0,12)=2 hide(0,13)=NONE hide(0,20)=NONE alter(0,1,19)=18 hide(0,20)=2");
    }

    private static void swapped() {
        run("22: no ACTS").is("swap(0)=NONE swap(1)=NONE plan(4)=1 swap(0)=NONE plan(4)=2 swap(0)=NONE");
        told("22: one ACT", "snake 99;guest 7;plan 0;").is("runs(3)=1 swap(0)=NONE swap(1)=NONE");
        told("22: two ACTS", "snake 99;plain 99;guest 7;plan 0 1;").is("swap(0)=1 swap(1)=0 act(0)=0 act(1)=1");
        told("22: the last two of eight", "plain 99;snake 99;guest 20;plan 1 0 1 0 1 0 0 1;")
            .is("runs(3)=1 swap(0)=67 swap(1)=0");
        told("22: the first and the last of eight", "plain 99;snake 99;guest 20;plan 0 0 1 0 1 0 1 1;")
            .is("runs(3)=1 swap(0)=7 swap(1)=0");
        told("22: fewest, though others are fewer too", "plain 99;snake 99;sea 1 1;guest 7;plan 2 1 0 1 0;")
            .is("runs(3)=2 swap(0)=4 swap(1)=0");
        told("22: as many are not fewer", "sea 99;sea 99;plan 0 1;").is("runs(3)=2 swap(0)=NONE swap(1)=NONE");
        told("22: of several the least", "plain 99;snake 99;guest 7;plan 1 0 0 0;").is("runs(3)=1 swap(0)=1 swap(1)=0");
        told("22: more than now", "sea 99;plain 99;snake 99;guest 7;laughs 60;plan 2 1 0;")
            .is("runs(3)=2 swap(0)=1 swap(1)=1 rule(2)=60");
    }

    private static void unmasked() {
        run("23: no TESTS").is("unmask(0)=NONE unmask(1)=NONE");
        told("23: no ACTS", "sea 9;").is("unmask(0)=NONE unmask(1)=NONE");
        told("23: plain ones alone", "plain 9;plain 9;plan 0 1;").is("unmask(0)=NONE unmask(1)=NONE");
        told("23: one more", "age 9 0 1;guest 2;plan 0;").is("runs(1)=0 unmask(0)=0 unmask(1)=2 test(0,0)=3");
        told("23: as much is not more", "age 9;snake 2 2;plan 0 1;").is("runs(1)=11 unmask(0)=NONE unmask(1)=NONE");
        told("23: the last one", "plain 9;plain 9;plain 9;sea 9;plan 3;").is("unmask(0)=3 unmask(1)=9");
        told("23: of several the first", "snake 5;snake 5;guest 9;plan 0 1;").is("runs(1)=8 unmask(0)=0 unmask(1)=9");
        told("23: most, though the first is more too", "snake 9;sea 9;guest 10;plan 0 1;")
            .is("runs(1)=6 unmask(0)=1 unmask(1)=14");
        told("23: SIZE at most", "snake 6;sea 2;guest 10;plan 0 1;").is("runs(1)=6 unmask(0)=0 unmask(1)=7");
    }

    private static void fractions() {
        Run run = told("lowest terms, 0 is 0 by 1", "plain 9;plain 5 5;guest 9;");
        for (int v = 0; v <= 10; v++) {
            int out = 10 - v;
            int common = v == 0 || v == 10 ? 10 : v == 5 ? 5 : v % 2 == 0 ? 2 : 1;
            run.is("luck(" + v + ",0,1,0)=" + out / common + " luck(" + v + ",0,1,1)=" + 10 / common);
            run.is("luck(" + v + ",1,8,0)=1 luck(" + v + ",1,8,1)=1 mean(" + v + ",1,8,0)=5 mean(" + v + ",1,8,1)=1");
            run.is("luck(" + v + ",0,0,0)=0 luck(" + v + ",0,0,1)=1 mean(" + v + ",0,0,0)=0 mean(" + v + ",0,0,1)=1");
        }
    }

    private static void lucks() {
        told("24: v 0, no PULL slips", "plain 19;")
            .is("luck(0,0,1,0)=0 luck(0,0,1,1)=1 luck(0,0,2,0)=1 luck(0,0,2,1)=1");
        told("24: v 10, each PULL slips", "plain 1;").is("luck(10,0,8,0)=0 luck(10,0,8,1)=1");
        told("24: 0 PULLS", "plain 1;plain 1 1;").is("luck(5,0,0,0)=0 luck(5,1,0,0)=1 luck(5,1,0,1)=1");
        told("24: 8 PULLS", "plain 1;").is("luck(9,0,8,0)=56953279 luck(9,0,8,1)=100000000");
        told("24: as far as they can be: STRENGTH", "plain 1;guest 2;")
            .is("luck(5,0,2,0)=3 luck(5,0,2,1)=4 luck(5,0,8,0)=3 luck(5,0,8,1)=4 strong(0)=2 luck(5,0,8,0)=0 "
                + "luck(5,0,8,1)=1");
        told("24: as far as they can be: WON", "plain 10;")
            .is("luck(5,0,1,0)=1 luck(5,0,1,1)=2 luck(5,0,2,0)=1 luck(5,0,2,1)=2");
        told("24: a PULL that slips tires", "plain 10;")
            .is("luck(5,0,2,0)=1 luck(5,0,2,1)=2 alter(0,1,9)=10 luck(5,0,2,0)=3 luck(5,0,2,1)=4");
        told("24: a PULL that slips is a PULL, PULLED", "age 8;")
            .is("luck(5,0,2,0)=1 luck(5,0,2,1)=2 alter(0,1,7)=8 luck(5,0,2,0)=3 luck(5,0,2,1)=4");
        told("24: all is as it was", "age 8;guest 9;")
            .is("luck(5,0,8,1)=8 rule(1)=9 rule(2)=0 test(0,2)=0 test(0,3)=0");
    }

    private static void means() {
        told("25: v 0, no PULL slips", "plain 99 1;").is("mean(0,0,1,0)=11 mean(0,0,8,0)=53 mean(0,0,8,1)=1");
        told("25: v 10, each PULL slips", "plain 99 7;").is("mean(10,0,8,0)=7 mean(10,0,8,1)=1");
        told("25: 0 PULLS", "plain 99 7;plain 99;")
            .is("mean(3,0,0,0)=7 mean(3,0,0,1)=1 mean(3,1,0,0)=0 mean(3,1,0,1)=1");
        told("25: SIZE at most", "plain 9;").is("mean(5,0,1,0)=9 mean(5,0,1,1)=2 mean(5,0,2,0)=27 mean(5,0,2,1)=4");
        told("25: STRENGTH ends", "plain 9;guest 2;")
            .is("mean(5,0,2,0)=3 mean(5,0,2,1)=2 mean(5,0,8,0)=3 mean(5,0,8,1)=2 strong(0)=2 mean(5,0,8,0)=0");
        told("25: more than an int", "plain 90 55;guest 8;").is("mean(1,0,8,0)=8696953279 mean(1,0,8,1)=100000000");
        told("25: WON", "plain 99 99;").is("mean(9,0,8,0)=99 mean(9,0,8,1)=1");
    }

    private static void seen() {
        told("26: SEEN (6)", "sea 9;sea 9;")
            .is("see(0,1,0,0)=1 see(0,1,0,0)=2 see(1,20,20,20)=3 see(0,20,0,20)=4 see(0,1,20,0)=5 see(0,1,0,0)=6 "
                + "see(0,1,0,0)=FULL see(1,1,0,0)=FULL see(2,1,0,0)=BAD see(0,0,0,0)=BAD count(0)=6 forget(5)=6 "
                + "see(0,1,0,0)=6");
        told("28: nothing SEEN: all KINDS", "sea 9;sea 9;")
            .is("kinds(0)=15 kinds(1)=15 see(1,20,0,10)=1 kinds(0)=15 kinds(1)=2");
        told("28: plain", "sea 9;").is("see(0,10,3,10)=1 kinds(0)=1");
        told("28: a snake", "sea 9;").is("see(0,11,0,5)=1 kinds(0)=2");
        told("28: a sea", "sea 9;").is("see(0,16,8,2)=1 kinds(0)=4");
        told("28: an age", "sea 9;").is("see(0,16,2,12)=1 kinds(0)=8");
        told("28: several", "sea 9;").is("see(0,10,0,10)=1 kinds(0)=9");
        told("28: several", "sea 9;").is("see(0,1,1,0)=1 kinds(0)=14");
        told("28: several", "sea 9;").is("see(0,8,2,4)=1 kinds(0)=10");
        told("28: none", "sea 9;").is("see(0,1,0,20)=1 kinds(0)=0");
        told("28: an age, 0 at least", "sea 9;").is("see(0,20,20,0)=1 kinds(0)=8");
        told("28: an age, 0 at least", "sea 9;")
            .is("see(0,20,10,0)=1 kinds(0)=8 forget(0)=1 see(0,20,9,2)=1 kinds(0)=12");
        told("28: by all that is SEEN of it", "sea 9;sea 9;")
            .is("see(0,10,0,10)=1 see(1,1,0,20)=2 kinds(0)=9 see(0,10,1,8)=3 kinds(0)=8 see(0,10,1,10)=4 kinds(0)=0 "
                + "forget(3)=4 kinds(0)=8 forget(1)=3 kinds(0)=9 kinds(1)=15 forget(0)=1 kinds(0)=15");
        told("28: the sixth counts too", "sea 9;")
            .is("see(0,10,0,10)=1 see(0,10,0,10)=2 see(0,10,0,10)=3 see(0,10,0,10)=4 see(0,10,0,10)=5 see(0,10,1,8)=6 "
                + "kinds(0)=8 forget(5)=6 kinds(0)=9");
        told("26: of the last TEST", "sea 9;sea 9;sea 9;sea 9;").is("see(3,10,0,10)=1 kinds(3)=9 kinds(2)=15");
        told("28: SEEN stays as KIND, PULLED, STRENGTH change", "sea 9;")
            .is("see(0,10,0,10)=1 alter(0,0,1)=2 alter(0,3,9)=0 strong(3)=10 fill(0)=0 kinds(0)=9 count(0)=1");
    }

    private static void asked() {
        told("29: the least STRENGTH is 1", "sea 9 0 1;").is("see(0,10,0,10)=1 kinds(0)=9 ask(0,0)=1 ask(0,1)=1");
        told("29: fewest, PULLED as it is", "sea 9 0 2;")
            .is("ask(0,0)=5 ask(0,1)=1 alter(0,3,0)=2 ask(0,0)=1 ask(0,1)=2 alter(0,3,1)=0 ask(0,0)=5 ask(0,1)=1");
        told("29: an age and a sea, PULLED 9", "sea 9 0 9;")
            .is("see(0,1,1,0)=1 see(0,20,9,2)=2 kinds(0)=12 ask(0,0)=8 ask(0,1)=1 alter(0,3,10)=9 ask(0,0)=8 "
                + "alter(0,3,0)=10 ask(0,0)=1 alter(0,3,99)=0 ask(0,0)=8");
        told("29: with none: one KIND", "sea 9;").is("see(0,10,3,10)=1 kinds(0)=1 ask(0,0)=NONE ask(0,1)=NONE");
        told("29: with none: no KIND", "sea 9;").is("see(0,1,0,20)=1 kinds(0)=0 ask(0,0)=NONE ask(0,1)=NONE");
        told("29: with none: as many are left", "sea 9;")
            .is("see(0,10,0,10)=1 kinds(0)=9 ask(0,0)=NONE ask(0,1)=NONE alter(0,3,1)=0 ask(0,0)=1");
        told("29: whatever STRENGTH is, also if it is WON", "sea 9 9 2;guest 0;")
            .is("ask(0,0)=5 ask(0,1)=1 rule(1)=0 count(0)=0");
    }

    private static void armsThatYielded() {
        told("30: 1 to 20", "sea 9;")
            .is("see(0,10,3,10)=1 kinds(0)=1 arms(0,0,1,0)=1 arms(0,0,1,1)=1 arms(0,0,1,2)=1 arms(0,0,20,0)=1 "
                + "arms(0,0,20,1)=20 arms(0,0,20,2)=20 arms(0,0,0,0)=0 arms(0,0,0,1)=NONE arms(0,0,0,2)=NONE");
        told("30: a snake", "sea 9;")
            .is("see(0,11,0,5)=1 kinds(0)=2 arms(0,20,0,0)=1 arms(0,20,0,1)=1 arms(0,20,0,2)=1 arms(0,0,9,0)=2 "
                + "arms(0,0,9,1)=18 arms(0,0,9,2)=19 arms(0,0,10,0)=1 arms(0,0,10,2)=20 arms(0,0,11,0)=0 "
                + "arms(0,0,11,1)=NONE");
        told("30: a sea", "sea 9;")
            .is("see(0,16,8,2)=1 kinds(0)=4 arms(0,0,0,0)=7 arms(0,0,0,1)=1 arms(0,0,0,2)=7 arms(0,0,1,0)=8 "
                + "arms(0,0,1,1)=8 arms(0,0,1,2)=15 arms(0,0,2,0)=5 arms(0,0,2,1)=16 arms(0,0,2,2)=20 arms(0,0,3,0)=0 "
                + "arms(0,0,3,2)=NONE");
        told("30: an age", "sea 9;")
            .is("see(0,16,2,12)=1 kinds(0)=8 arms(0,0,0,0)=0 arms(0,1,0,0)=2 arms(0,1,0,2)=2 arms(0,10,0,0)=20 "
                + "arms(0,10,0,1)=1 arms(0,10,0,2)=20 arms(0,9,0,0)=18 arms(0,9,1,1)=19 arms(0,9,2,1)=20 "
                + "arms(0,9,3,0)=0 arms(0,20,0,0)=20");
        told("30: no KIND", "sea 9;")
            .is("see(0,1,0,20)=1 kinds(0)=0 arms(0,0,0,0)=0 arms(0,0,0,1)=NONE arms(0,0,0,2)=NONE");
        told("30: of some KIND, each STRENGTH once", "sea 9;")
            .is("arms(0,0,5,0)=3 arms(0,0,5,1)=5 arms(0,0,5,2)=11 arms(0,20,0,0)=20 arms(0,0,20,0)=1");
        told("30: PULLED p, not as it is", "sea 9 0 9;").is("see(0,16,2,12)=1 arms(0,0,5,1)=5");
    }

    private static void drifted() {
        run("31: there are no TESTS")
            .is("drift(0,1,0)=STATE drift(0,60,1)=STATE drift(0,0,0)=BAD drift(0,61,0)=BAD drift(0,1,2)=BAD");
        told("31: bits 16 to 30, 12345 by 65536 is 0", "plain 1;plain 1;plain 1;plain 1;").is("drift(0,1,0)=1");
        told("31: bits 16 to 30 of 1103527590 are 16838", "plain 1;plain 1;plain 1;plain 1;").is("drift(1,1,0)=4");
        told("31: modulo TESTS", "plain 1;plain 1;plain 1;").is("drift(1,1,0)=4 drift(0,1,0)=1");
        told("31: bit 31 is none of them", "plain 1;plain 1;plain 1;").is("drift(MIN,1,0)=1 drift(-2147483647,1,0)=4");
        told("31: the seed wraps around", "plain 1;plain 1;plain 1;plain 1;")
            .is("drift(-1,1,0)=" + drawn(-1, 4) + " drift(MAX,1,0)="
            + drawn(Integer.MAX_VALUE, 4) + " drift(2147418112,1,0)=" + drawn(2147418112, 4));
        told("31: one TEST, 1 ACT, 60 ACTS", "plain 99;guest 20;")
            .is("drift(7,1,0)=0 drift(7,6,0)=1 drift(7,5,0)=0 drift(7,60,0)=1 rule(5)=0");
        told("31: if it can not be, a REST", "snake 99;guest 0;")
            .is("drift(7,1,1)=0 drift(7,2,1)=0 drift(7,3,1)=1 drift(7,4,1)=1 drift(7,5,1)=1 drift(7,6,1)=2");
        told("31: WON: a REST", "plain 1 1;laughs 9;").is("drift(7,60,0)=1 drift(7,60,1)=0 rule(1)=10");
        told("31: by itself", "sea 99;laughs 9;plan 4;")
            .is("drift(7,60,1)=43 rule(1)=10 rule(2)=9 rule(5)=0 test(0,3)=0 rule(3)=1");
    }

    /** The seed reckoned with whole numbers that do not wrap around. */
    private static int drawn(int seed, int tests) {
        java.math.BigInteger grown = java.math.BigInteger.valueOf(seed)
            .multiply(java.math.BigInteger.valueOf(1103515245)).add(java.math.BigInteger.valueOf(12345));
        return 1 << grown.shiftRight(16).and(java.math.BigInteger.valueOf(32767)).intValue() % tests;
    }

    private static void images() {
        run("32: whether there was one, of an object with no TESTS")
            .is("keep(0)=0 keep(0)=1 keep(1)=0 keep(1)=1 count(1)=2 back(0)=0 back(1)=0");
        run("33: there is none").is("back(0)=STATE keep(1)=0 back(0)=STATE back(1)=0 count(1)=1");
        told("33: all is as IMAGE k", "plain 30;snake 30;sea 30;age 30;laughs 4;plan 0 1;")
            .is("keep(0)=0 pull(0)=10 pull(1)=4 pull(2)=1 pull(3)=7 alter(0,0,3)=0 alter(1,1,50)=30 plan(4)=3 "
                + "rule(2)=6 keep(1)=0 back(0)=4 rule(1)=10 rule(2)=4 rule(3)=2 rule(5)=0 test(0,0)=0 test(1,1)=30 "
                + "count(5)=0 back(1)=6 rule(1)=6 rule(2)=6 rule(3)=3 act(2)=4 rule(5)=22 test(0,0)=3 test(1,1)=50 "
                + "test(3,2)=7 test(3,3)=1 count(5)=4");
        told("33: an IMAGE stays", "plain 30;")
            .is("keep(0)=0 pull(0)=10 back(0)=0 pull(0)=10 pull(0)=9 back(0)=0 rule(5)=0 rule(1)=10 count(1)=1");
        told("32: in place of the one before", "plain 30;")
            .is("keep(0)=0 pull(0)=10 keep(0)=1 pull(0)=9 back(0)=0 rule(5)=10 rule(1)=9");
        told("33: a longer and a shorter PLAN", "sea 9;plan 4 4 4 4 4 4 4 4;")
            .is("keep(0)=0 cut(0)=8 keep(1)=0 back(0)=0 rule(3)=8 act(7)=4 back(1)=0 rule(3)=0 act(0)=BAD");
        told("33: SEEN, THE TAPE, SHEETS, FAULTS are no part of it", "sea 9;")
            .is("keep(0)=0 see(0,1,0,0)=1 feed(35)=1 sheet(0,0,5)=1 read(1,0,0,1)=0 back(0)=0 count(0)=1 count(2)=1 "
                + "count(3)=5 torn()=1 text()=-10 back(0)=0 fault()=1 count(1)=1");
        told("IMAGES are gone", "sea 9;")
            .is("keep(0)=0 keep(1)=0 text()=0 back(0)=STATE back(1)=STATE count(1)=0 keep(0)=0 keep(1)=0");
    }

    private static void sheets() {
        run("34: 0 CELLS").is("sheet(0,0,0)=1 count(3)=0 lay(0,0,0)=-12 lay(0,-1,0)=-12 read(0,0,0,1)=0 torn()=2");
        run("34: 40 CELLS")
            .is("sheet(0,2,40)=1 count(3)=40 lay(0,39,0)=1 lay(0,40,0)=-12 sheet(0,2,41)=BAD count(3)=40");
        run("34: below 0")
            .is("sheet(0,0,-1)=-14 count(3)=NONE sheet(0,0,MIN)=-14 sheet(0,0,5)=1 sheet(0,1,-1)=-14 count(3)=5 "
                + "lay(0,4,0)=1");
        run("34: BAD ahead of SIZE").is("sheet(4,0,-1)=BAD sheet(-1,0,-1)=BAD sheet(0,3,-1)=BAD sheet(0,-1,-1)=BAD");
        for (int lane = 0; lane < 3; lane++) {
            told("34: CELLS 0", "plain 99;guest 9;")
                .is("sheet(3," + lane + ",9)=1 read(3," + lane + ",0,9)=9 torn()=0 test(0,3)=9");
            told("34: a new row", "plain 99;sea 9;guest 9;")
                .is("sheet(1,2,3)=1 lay(1,0,1)=1 lay(1,2,-1)=1 sheet(1," + lane + ",3)=1 read(1," + lane + ",0,3)=3 "
                    + "test(0,3)=3 torn()=0");
        }
        told("34: shorter, then longer again, CELLS 0", "plain 99;sea 9;guest 9;")
            .is("sheet(2,0,4)=1 lay(2,3,1)=1 sheet(2,0,1)=1 lay(2,3,0)=-12 sheet(2,0,4)=1 read(2,0,3,1)=1 test(0,3)=1 "
                + "test(1,3)=0");
        run("34: each for itself")
            .is("sheet(0,0,1)=1 sheet(1,1,2)=1 sheet(2,2,3)=1 sheet(3,0,4)=1 lay(0,1,0)=-12 lay(1,1,0)=1 "
                + "lay(1,2,0)=-12 lay(2,2,0)=1 lay(2,3,0)=-12 lay(3,3,0)=1 lay(3,4,0)=-12 lay(0,0,0)=1");
    }

    /** Whether a CELL into which v is laid is then 0: the one TEST is pulled at, or it is refused. */
    private static void isLaidAs(int lane, int v, boolean zero) {
        told("35: lowest bits, lane " + lane + ", " + v, "plain 99;")
            .is("sheet(0," + lane + ",1)=1 lay(0,0," + v + ")=1 read(0,"
            + lane + ",0,1)=" + (zero ? 1 : -20));
    }

    private static void laidBits() {
        int[] byByte = {256, -256, 512, 65536, Integer.MIN_VALUE};
        int[] notByByte = {1, -1, 127, 128, 255, 257, -128, -129, Integer.MAX_VALUE};
        int[] byShort = {65536, -65536, 131072, Integer.MIN_VALUE};
        int[] notByShort = {1, -1, 256, -256, 32767, 32768, 65535, 65537, -32768, Integer.MAX_VALUE};
        int[] notByInt = {1, -1, 256, 65536, -65536, Integer.MIN_VALUE, Integer.MAX_VALUE};
        for (int lane = 0; lane < 3; lane++) {
            isLaidAs(lane, 0, true);
        }
        for (int v : byByte) {
            isLaidAs(0, v, true);
        }
        for (int v : notByByte) {
            isLaidAs(0, v, false);
        }
        for (int v : byShort) {
            isLaidAs(1, v, true);
        }
        for (int v : notByShort) {
            isLaidAs(1, v, false);
        }
        for (int v : notByInt) {
            isLaidAs(2, v, false);
        }
        told("35: lowest bits, also in the last CELL", "sea 9;sea 9;sea 9;sea 9;")
            .is("sheet(0,0,40)=1 lay(0,39,259)=1 read(0,0,39,1)=1 test(3,3)=1 lay(0,39,-253)=1 read(0,0,39,1)=1 "
                + "test(3,3)=2");
        run("35: NULL ahead of INDEX")
            .is("lay(0,-1,0)=-11 lay(3,99,0)=-11 sheet(3,0,2)=1 lay(3,99,0)=-12 lay(3,-1,0)=-12 lay(4,-1,0)=BAD");
    }

    private static void readings() {
        told("36: n 0", "plain 99;").is("sheet(0,0,2)=1 read(0,0,0,0)=0 torn()=0 read(0,0,9,0)=0 torn()=0 rule(5)=0");
        told("36: n 20", "age 99 0 99;guest 20;").is("sheet(0,0,20)=1 read(0,0,0,20)=20 torn()=0 rule(1)=0 rule(2)=20");
        told("36: n 20, the last is refused", "age 99 0 99;guest 19;")
            .is("sheet(0,0,20)=1 read(0,0,0,20)=-39 rule(1)=19 rule(2)=0 read(0,0,0,19)=19 rule(1)=0");
        told("36: just to the end", "plain 99;").is("sheet(0,0,5)=1 read(0,0,2,3)=3 torn()=0 test(0,3)=3");
        told("36: one beyond the end, those ahead were", "plain 99;")
            .is("sheet(0,0,5)=1 read(0,0,2,4)=3 torn()=2 test(0,3)=3 rule(5)=27");
        told("36: from the first beyond the end", "plain 99;")
            .is("sheet(0,0,5)=1 read(0,0,5,1)=0 torn()=2 read(0,0,4,1)=1 torn()=0 test(0,3)=1");
        told("36: from below the first", "plain 99;")
            .is("sheet(0,0,5)=1 read(0,0,-1,2)=0 torn()=2 rule(5)=0 read(0,0,MIN,20)=0 torn()=2");
        told("36: from the last int on", "plain 99;")
            .is("sheet(0,0,40)=1 read(0,0,MAX,2)=0 torn()=2 read(0,0,2147483640,20)=0 torn()=2 rule(5)=0");
        told("36: refused by pull(): no such TEST", "plain 99;plain 99;")
            .is("sheet(0,2,4)=1 lay(0,1,2)=1 lay(0,2,-1)=1 lay(0,3,4)=1 read(0,2,0,2)=-21 read(0,2,1,1)=-20 "
                + "read(0,2,2,1)=-20 read(0,2,3,1)=-20 rule(5)=0 rule(1)=10 count(5)=0");
        told("36: refused by pull(): it is WON", "plain 10;plain 9 9;")
            .is("sheet(0,0,2)=1 lay(0,1,1)=1 read(0,0,0,2)=-21 rule(5)=9 read(0,0,1,1)=-20 lay(0,1,0)=1 "
                + "read(0,0,0,2)=-21 rule(5)=9 test(0,3)=0 rule(1)=10 read(0,0,0,1)=1 rule(5)=19");
        told("36: refused by pull(): no STRENGTH", "sea 99;guest 2;laughs 5;")
            .is("sheet(0,0,3)=1 read(0,0,0,3)=-22 rule(1)=2 rule(2)=5 test(0,3)=0 read(0,0,0,2)=2 rule(1)=0 rule(2)=7 "
                + "read(0,0,0,1)=-20");
        told("36: the first met: refused ahead of INDEX", "plain 99;")
            .is("sheet(0,0,2)=1 lay(0,1,9)=1 read(0,0,0,3)=-21 torn()=0 rule(5)=0");
        told("36: the first met: INDEX ahead of refused", "plain 99;guest 2;")
            .is("sheet(0,0,2)=1 read(0,0,0,3)=2 torn()=2 rule(5)=3");
        told("36: no STRENGTH, and no CELL: INDEX", "plain 99;guest 0;")
            .is("sheet(0,0,2)=1 read(0,0,2,1)=0 torn()=2 read(0,0,1,1)=-20");
        run("36: no TESTS").is("sheet(0,0,1)=1 read(0,0,0,1)=-20 read(0,0,0,0)=0 read(0,0,1,1)=0 torn()=2");
        run("36: BAD ahead of all else")
            .is("read(0,0,0,21)=BAD read(0,0,0,-1)=BAD read(0,3,0,1)=BAD read(0,-1,0,1)=BAD read(4,0,0,1)=BAD "
                + "read(-1,0,0,1)=BAD torn()=0");
        told("36: as by pull()", "plain 12;snake 99;sea 99;age 99;guest 10;")
            .is("sheet(0,1,6)=1 lay(0,1,1)=1 lay(0,2,2)=1 lay(0,3,3)=1 lay(0,4,3)=1 lay(0,5,0)=1 read(0,1,0,6)=6 "
                + "test(0,2)=12 test(1,2)=4 test(2,2)=1 test(3,2)=11 rule(1)=4 rule(2)=2 count(5)=6");
        told("36: PULLED 99 at most", "plain 99 0 98;").is("sheet(0,0,3)=1 read(0,0,0,3)=3 test(0,3)=99");
    }

    private static void tornReadings() {
        for (int lane = 0; lane < 3; lane++) {
            for (int as = 0; as < 3; as++) {
                told("37: CAST (another lane), " + lane + " as " + as, "plain 99;")
                    .is("sheet(1," + lane + ",2)=1 read(1," + as + ",0,1)="
                    + (as == lane ? 1 : 0) + " torn()=" + (as == lane ? 0 : 3) + " read(1," + as + ",2,1)=0 "
                        + "torn()=" + (as == lane ? 2 : 3));
            }
        }
        run("37: another lane of no CELLS").is("sheet(1,0,0)=1 read(1,1,0,1)=0 torn()=3 read(1,0,0,1)=0 torn()=2");
        run("37: NULL, wherever it is read")
            .is("read(2,1,0,1)=0 torn()=1 read(2,1,-1,1)=0 torn()=1 read(2,1,MAX,20)=0 torn()=1");
        told("37: the latest read() that came to an end", "plain 99;guest 2;")
            .is("torn()=0 sheet(0,0,2)=1 read(1,0,0,1)=0 torn()=1 torn()=1 read(0,0,0,21)=BAD torn()=1 "
                + "read(9,0,0,1)=BAD torn()=1 lay(0,1,7)=1 read(0,0,0,2)=-21 torn()=1 lay(0,9,0)=-12 torn()=1 "
                + "sheet(0,0,-1)=-14 torn()=1 lay(2,0,0)=-11 torn()=1 read(0,1,0,1)=0 torn()=3 read(0,0,2,1)=0 "
                + "torn()=2 text()=0 torn()=2");
        told("37: 0 behind one without a FAULT", "plain 99;")
            .is("sheet(0,0,2)=1 read(0,0,2,1)=0 torn()=2 read(0,0,0,1)=1 torn()=0 read(0,0,0,3)=2 torn()=2 "
                + "read(0,0,0,0)=0 torn()=0");
        told("37: it stays as IMAGES go back", "plain 99;").is("keep(0)=0 read(0,0,0,1)=0 torn()=1 back(0)=0 torn()=1");
    }

    private static void counts() {
        told("38: SEEN", "sea 9;").is("count(0)=0 see(0,1,0,0)=1 count(0)=1 forget(0)=1 count(0)=0");
        run("38: IMAGES")
            .is("count(1)=0 keep(1)=0 count(1)=1 keep(1)=1 count(1)=1 keep(0)=0 count(1)=2 back(0)=0 count(1)=2 "
                + "text()=0 count(1)=0");
        run("38: bytes on THE TAPE").is("count(2)=0 feed(1)=1 count(2)=1 end(0)=1 count(2)=0");
        run("38: CELLS of SHEET 0")
            .is("count(3)=NONE sheet(1,0,5)=1 sheet(2,0,6)=1 sheet(3,0,7)=1 count(3)=NONE sheet(0,0,0)=1 count(3)=0 "
                + "sheet(0,1,40)=1 count(3)=40 sheet(0,2,3)=1 count(3)=3");
        told("38: all SIZES, how often all were PULLED", "sea 99 0 99;sea 99 0 99;sea 99 0 99;sea 99 0 99;")
            .is("count(4)=396 count(5)=396 alter(3,1,1)=99 count(4)=298 fill(0)=0 count(5)=297 pull(0)=1 count(5)=298 "
                + "pull(1)=1 count(5)=298");
        run("38: no TESTS").is("count(4)=0 count(5)=0");
    }

    private static void allOf512Calls() {
        Run run = told("an object is used for at most 512 calls", "age 99 0 99;");
        while (run.calls() < 510) {
            run.call("strong", run.calls() % 21);
        }
        run.is("strong(7)=" + 509 % 21 + " rule(1)=7");
        DUE.is("calls", run.calls(), 512);
    }
}
