/** Each sentence about THE TAPE, its TOKENS, its lines and their FAULTS (promises 2 to 5). */
public final class TextTests {
    private static final String[] KINDS = {"plain", "snake", "sea", "age"};
    private static final int NO_TOKEN = 1, MISPLACED = 2, OUT_OF_BOUNDS = 3, TWICE = 4, TOO_MANY = 5, MISSING = 6;
    private static final Due DUE = new Due();
    private static final Tables TABLES = new Tables(DUE);

    public static void main(String[] args) {
        tapeOf160Bytes();
        tokensAsLongAsMayBe();
        blanksBetween();
        numbersOfOneOrTwoFigures();
        eachByteAsAToken();
        namesThatBeginALine();
        linesOfATest();
        linesOfTheGuestAndLaughs();
        linesOfThePlan();
        boundsOfNumbers();
        forTheSecondTime();
        theFifthTest();
        theNinthAct();
        aTestThatThereIsNot();
        theFirstMet();
        takenTellsAll();
        refusedLeavesAll();
        theFaultOfTheLatest();
        DUE.end();
    }

    /** What was told stays, and THE TAPE is empty. */
    private static void refuses(String sentence, String text, int place, int fault) {
        String name = sentence + ": '" + text + "'";
        Run run = TABLES.make(Tables.RICH, name).is("end(0)=6").write(text);
        run.is("text()=" + (-10 - place) + " fault()=" + fault);
        TABLES.same(name + " changes something", Trace.withoutFault(run),
            Trace.withoutFault(TABLES.make(Tables.RICH, name).is("end(0)=6")));
    }

    /** All is as if nothing else had been told before, but for the sheets. */
    private static void takes(String sentence, String text, int lines, String rows) {
        String name = sentence + ": '" + text + "'";
        Run run = TABLES.make(Tables.RICH, name).is("end(0)=6").write(text);
        run.is("text()=" + lines + " fault()=0 count(2)=0 " + rows);
        TABLES.same(name + " leaves something of before", Trace.of(run),
            Trace.of(Tables.sheets(new Run(DUE, name)).tell(text)));
    }

    private static void tapeOf160Bytes() {
        String s = "THE TAPE has 160 bytes, places from 0";
        new Run(DUE, s).write("guest 7;" + " ".repeat(151))
            .is("count(2)=159 feed(32)=160 feed(32)=FULL count(2)=160 text()=1 rule(1)=7");
        new Run(DUE, s).write(" ".repeat(152) + "guest 7;").is("feed(59)=FULL text()=1 rule(1)=7");
        new Run(DUE, s).write("#").is("text()=-10 fault()=1");
        new Run(DUE, s).write(" ".repeat(159) + "#").is("count(2)=160 text()=-169 fault()=1");
        new Run(DUE, s).write(" ".repeat(155) + "plain").is("count(2)=160 text()=-170 fault()=2");
        new Run(DUE, s).write("plan 0;" + " ".repeat(153)).is("text()=-170 fault()=6");
        new Run(DUE, s).write(" ".repeat(160)).is("text()=0 fault()=0 count(2)=0 feed(0)=1");
        new Run(DUE, s).write(" ".repeat(153) + "guest 7").is("feed(59)=FULL text()=-170 fault()=2 rule(1)=10");
        new Run(DUE, "2: how many it has").is("feed(97)=1 feed(98)=2 end(0)=2 feed(99)=1");
        new Run(DUE, "2: a full TAPE takes again behind end()").write(" ".repeat(160))
            .is("feed(1)=FULL end(159)=160 feed(35)=160 feed(1)=FULL text()=-169");
        new Run(DUE, "2: a full TAPE takes again behind text()").write(" ".repeat(160)).is("text()=0 feed(1)=1");
        new Run(DUE, "2: a full TAPE takes again behind a refused text()").write("#".repeat(160))
            .is("text()=-10 feed(1)=1");
        new Run(DUE, "3: keeps its first n").write("guest 12;")
            .is("end(7)=9 count(2)=7 feed(53)=8 feed(59)=9 text()=1 rule(1)=15");
        new Run(DUE, "3: keeps all").write("guest 12;").is("end(9)=9 text()=1 rule(1)=12");
        new Run(DUE, "3: keeps none").write("guest 12;").is("end(0)=9 text()=0 rule(1)=10");
    }

    private static void tokensAsLongAsMayBe() {
        String s = "TOKENS, each as long as may be";
        takes(s, "plain20 3 1;guest7;laughs7;plan0 4;", 4, "test(0,1)=20 rule(1)=7 rule(2)=7 rule(3)=2 act(1)=4");
        refuses(s, "plainsea 5;", 0, MISPLACED);
        refuses(s, "planplan;", 0, MISPLACED);
        refuses(s, "ageguest 5;", 0, MISPLACED);
        refuses(s, "plan 4plan;", 6, MISPLACED);
        refuses(s, "guest 7laughs", 7, MISPLACED);
        refuses(s, "plan 44;", 5, OUT_OF_BOUNDS);
        takes(s, "plan 4 4;", 1, "rule(3)=2");
        refuses(s, "plan 444;", 5, NO_TOKEN);
        refuses("one ;", "plan;;", 5, MISPLACED);
    }

    private static void blanksBetween() {
        String s = "blanks (32) between";
        takes(s, "", 0, "rule(0)=0");
        takes(s, " ", 0, "rule(0)=0");
        takes(s, "   plain   7  5   3   ;  guest 2 ;  ", 2, "test(0,1)=7 test(0,2)=5 test(0,3)=3 rule(1)=2");
        takes(s, "plain 7;guest 2;", 2, "test(0,1)=7 rule(1)=2");
        refuses(s, "gu est 7;", 0, MISPLACED);
        refuses(s, "guest 1 2;", 8, MISPLACED);
        refuses(s, "guest\t7;", 5, NO_TOKEN);
        refuses(s, "guest 7;\n", 8, NO_TOKEN);
        refuses(s, "\rguest 7;", 0, NO_TOKEN);
        refuses(s, "guest" + (char) 31 + "7;", 5, NO_TOKEN);
        refuses(s, "guest!7;", 5, NO_TOKEN);
        refuses(s, "guest" + (char) 0 + "7;", 5, NO_TOKEN);
    }

    private static void numbersOfOneOrTwoFigures() {
        String s = "NUMBERS (1 or 2 figures)";
        takes(s, "plain 9 9 9;", 1, "test(0,1)=9 test(0,2)=9 test(0,3)=9");
        takes(s, "plain 10 10 10;", 1, "test(0,1)=10 test(0,2)=10 test(0,3)=10");
        takes(s, "plain 09 00 01;", 1, "test(0,1)=9 test(0,2)=0 test(0,3)=1");
        takes(s, "plain 98 76 54;", 1, "test(0,1)=98 test(0,2)=76 test(0,3)=54");
        s = "FAULT 1, a NUMBER that is too long (its first byte)";
        refuses(s, "plain 100;", 6, NO_TOKEN);
        refuses(s, "plain 001;", 6, NO_TOKEN);
        refuses(s, "plain 5 005;", 8, NO_TOKEN);
        refuses(s, "plain 5 5 100;", 10, NO_TOKEN);
        refuses(s, "plain 123456789012345678901234567890;", 6, NO_TOKEN);
        refuses(s, "guest 100;", 6, NO_TOKEN);
        refuses(s, "laughs 100;", 7, NO_TOKEN);
        refuses(s, "plan 4 000;", 7, NO_TOKEN);
        refuses(s + ", where none can stand", "100;", 0, NO_TOKEN);
        refuses(s + ", where none can stand", "guest 7 100;", 8, NO_TOKEN);
        refuses(s + ", where none can stand", "plain 5 5 5 100;", 12, NO_TOKEN);
    }

    /** The 128 bytes at the beginning of a line, behind its name, and behind a number. */
    private static void eachByteAsAToken() {
        for (int c = 0; c <= 127; c++) {
            byteAt("", c, c == ' ' ? 0 : -10, c == ' ' ? 0 : isToken(c) ? MISPLACED : NO_TOKEN);
            byteBehindName(c);
            byteBehindNumber(c);
        }
    }

    private static boolean isToken(int c) {
        return isLetter(c) || isFigure(c) || c == 59;
    }

    private static boolean isLetter(int c) {
        return c >= 97 && c <= 122;
    }

    private static boolean isFigure(int c) {
        return c >= 48 && c <= 57;
    }

    private static void byteBehindName(int c) {
        if (isLetter(c)) {
            byteAt("plain", c, -10, MISPLACED);
        } else if (c == '0') {
            byteAt("plain", c, -15, OUT_OF_BOUNDS);
        } else if (c == ' ' || isFigure(c)) {
            byteAt("plain", c, -16, MISPLACED);
        } else {
            byteAt("plain", c, -15, c == ';' ? MISPLACED : NO_TOKEN);
        }
    }

    private static void byteBehindNumber(int c) {
        if (c == ';') {
            byteAt("plain 5", c, 1, 0);
        } else if (c == ' ' || isFigure(c)) {
            byteAt("plain 5", c, -18, MISPLACED);
        } else {
            byteAt("plain 5", c, -17, isLetter(c) ? MISPLACED : NO_TOKEN);
        }
    }

    private static void byteAt(String ahead, int c, int answer, int fault) {
        new Run(DUE, "FAULT 1, no TOKEN: byte " + c + " behind '" + ahead + "'").write(ahead)
            .is("feed(" + c + ")=" + (ahead.length() + 1) + " text()=" + answer + " fault()=" + fault);
    }

    private static void namesThatBeginALine() {
        String s = "FAULT 2, a NAME that begins no line";
        for (String name : new String[] {"plain", "snake", "sea", "age", "guest", "laughs", "plan"}) {
            refuses(s, name + "s 5;", 0, MISPLACED);
            refuses(s, "a" + name + " 5;", 0, MISPLACED);
            refuses(s, name.substring(1) + " 5;", 0, MISPLACED);
            refuses(s, name.substring(0, name.length() - 1) + "z 5;", 0, MISPLACED);
            refuses(s, "z" + name.substring(1) + " 5;", 0, MISPLACED);
            refuses(s, name.charAt(0) + "z" + name.substring(2) + " 5;", 0, MISPLACED);
            refuses(s, name.toUpperCase() + " 5;", 0, NO_TOKEN);
        }
        for (String name : new String[] {"a", "z", "pla", "plai", "snak", "se", "ag", "gues", "laugh", "pl", "p"}) {
            refuses(s, name + " 5;", 0, MISPLACED);
        }
        refuses(s, "plan;rest 1;", 5, MISPLACED);
        refuses(s, "x", 0, MISPLACED);
        refuses("FAULT 2, a TOKEN that can not stand at a line's beginning", "5;", 0, MISPLACED);
        refuses("FAULT 2, a TOKEN that can not stand at a line's beginning", ";", 0, MISPLACED);
        refuses("FAULT 2, a TOKEN that can not stand at a line's beginning", "guest 5;7;", 8, MISPLACED);
        refuses("FAULT 2, a TOKEN that can not stand at a line's beginning", "guest 5; ;", 9, MISPLACED);
    }

    private static void linesOfATest() {
        for (int kind = 0; kind < 4; kind++) {
            String k = KINDS[kind];
            int n = k.length();
            String s = "line: K N [ N [ N ] ] ;";
            takes(s, k + " 8;", 1, "rule(0)=1 test(0,0)=" + kind + " test(0,1)=8 test(0,2)=0 test(0,3)=0");
            takes(s, k + " 8 6;", 1, "rule(0)=1 test(0,0)=" + kind + " test(0,1)=8 test(0,2)=6 test(0,3)=0");
            takes(s, k + " 8 6 4;", 1, "rule(0)=1 test(0,0)=" + kind + " test(0,1)=8 test(0,2)=6 test(0,3)=4");
            s = "FAULT 2, a TOKEN that can not stand there";
            refuses(s, k + ";", n, MISPLACED);
            refuses(s, k + " plan", n + 1, MISPLACED);
            refuses(s, k + " 8 plan", n + 3, MISPLACED);
            refuses(s, k + " 8 6 plan", n + 5, MISPLACED);
            refuses(s, k + " 8 6 4 plan", n + 7, MISPLACED);
            refuses(s, k + " 8 6 4 2;", n + 7, MISPLACED);
            s = "FAULT 2, the end: the length";
            refuses(s, k, n, MISPLACED);
            refuses(s, k + "  ", n + 2, MISPLACED);
            refuses(s, k + " 8", n + 2, MISPLACED);
            refuses(s, k + " 8 6 ", n + 5, MISPLACED);
            refuses(s, k + " 8 6 4", n + 6, MISPLACED);
        }
    }

    private static void linesOfTheGuestAndLaughs() {
        for (String name : new String[] {"guest", "laughs"}) {
            int n = name.length();
            String what = name.equals("guest") ? "rule(1)" : "rule(2)";
            takes("line: " + name + " N ;", name + " 8;", 1, what + "=8 rule(0)=0 rule(3)=0");
            String s = "FAULT 2, a TOKEN that can not stand there";
            refuses(s, name + ";", n, MISPLACED);
            refuses(s, name + " sea", n + 1, MISPLACED);
            refuses(s, name + " 8 8;", n + 3, MISPLACED);
            refuses(s, name + " 8 sea", n + 3, MISPLACED);
            s = "FAULT 2, the end: the length";
            refuses(s, name, n, MISPLACED);
            refuses(s, name + " ", n + 1, MISPLACED);
            refuses(s, name + " 8", n + 2, MISPLACED);
            refuses(s, name + " 8 ", n + 3, MISPLACED);
        }
        takes("STRENGTH is 10, LAUGHS are 0 where none is told", "sea 1;", 1, "rule(1)=10 rule(2)=0 rule(3)=0");
    }

    private static void linesOfThePlan() {
        String s = "line: plan { N } ;";
        takes(s, "plan;", 1, "rule(3)=0 act(0)=BAD");
        takes(s, "plan 4;", 1, "rule(3)=1 act(0)=4 act(1)=BAD");
        takes(s, "plan 4 4 4 4 4 4 4 4;", 1, "rule(3)=8 act(0)=4 act(7)=4");
        s = "FAULT 2, a TOKEN that can not stand there";
        refuses(s, "plan sea", 5, MISPLACED);
        refuses(s, "plan 4 sea", 7, MISPLACED);
        refuses(s, "plan 4 4 4 4 4 4 4 4 sea", 21, MISPLACED);
        s = "FAULT 2, the end: the length";
        refuses(s, "plan", 4, MISPLACED);
        refuses(s, "plan 4", 6, MISPLACED);
        refuses(s, "plan 4 4 4 4 4 4 4 4", 20, MISPLACED);
        refuses(s, "plan 4 4 4 4 4 4 4 4  ", 22, MISPLACED);
    }

    private static void boundsOfNumbers() {
        takes("SIZE 1", "sea 1;", 1, "test(0,1)=1");
        takes("SIZE 99", "sea 99;", 1, "test(0,1)=99");
        refuses("FAULT 3, SIZE 0", "sea 0;", 4, OUT_OF_BOUNDS);
        refuses("FAULT 3, SIZE 0", "sea 00;", 4, OUT_OF_BOUNDS);
        refuses("FAULT 3, SIZE 0", "sea 0 0 0;", 4, OUT_OF_BOUNDS);
        takes("MOVED 0", "sea 9 0;", 1, "test(0,2)=0 rule(4)=0");
        takes("MOVED SIZE", "sea 9 9;", 1, "test(0,2)=9 rule(4)=1");
        refuses("FAULT 3, MOVED above SIZE", "sea 9 10;", 6, OUT_OF_BOUNDS);
        takes("MOVED SIZE", "sea 1 1;", 1, "test(0,2)=1 rule(4)=1");
        refuses("FAULT 3, MOVED above SIZE", "sea 1 2;", 6, OUT_OF_BOUNDS);
        takes("MOVED SIZE", "sea 99 99;", 1, "test(0,2)=99");
        refuses("FAULT 3, MOVED above SIZE", "sea 98 99 5;", 7, OUT_OF_BOUNDS);
        refuses("FAULT 3, MOVED above its own SIZE", "sea 50;sea 9 10;", 13, OUT_OF_BOUNDS);
        takes("PULLED 0", "sea 9 9 0;", 1, "test(0,3)=0");
        takes("PULLED 99, SIZE is no bound of it", "sea 9 0 99;", 1, "test(0,3)=99");
        takes("STRENGTH 0", "guest 0;", 1, "rule(1)=0");
        takes("STRENGTH 20", "guest 20;", 1, "rule(1)=20");
        refuses("FAULT 3, STRENGTH 21", "guest 21;", 6, OUT_OF_BOUNDS);
        refuses("FAULT 3, STRENGTH 99", "guest 99;", 6, OUT_OF_BOUNDS);
        takes("LAUGHS 0", "laughs 0;", 1, "rule(2)=0");
        takes("LAUGHS 99", "laughs 99;", 1, "rule(2)=99");
        for (int act = 0; act <= 4; act++) {
            takes("ACTS (0 to 4)", "sea 9;sea 9;sea 9;sea 9;plan " + act + ";", 5, "rule(3)=1 act(0)=" + act);
        }
        for (int ahead = 0; ahead < 8; ahead++) {
            refuses("FAULT 3, ACT 5", "plan" + " 4".repeat(ahead) + " 5;", 5 + 2 * ahead, OUT_OF_BOUNDS);
        }
        refuses("FAULT 3, ACT 99", "plan 99;", 5, OUT_OF_BOUNDS);
        refuses("FAULT 3, ACT 10", "plan 10;", 5, OUT_OF_BOUNDS);
    }

    private static void forTheSecondTime() {
        String s = "FAULT 4, guest, laughs, plan for the second time (its NAME)";
        refuses(s, "guest 1;guest 2;", 8, TWICE);
        refuses(s, "laughs 1;laughs 2;", 9, TWICE);
        refuses(s, "plan 4;plan 4;", 7, TWICE);
        refuses(s + ", told as it is at first", "guest 10; guest 10;", 10, TWICE);
        refuses(s + ", told as it is at first", "laughs 0;laughs 0;", 9, TWICE);
        refuses(s + ", told as it is at first", "plan;plan;", 5, TWICE);
        refuses(s + ", others between", "guest 1;laughs 1;plan;sea 5;guest 1;", 28, TWICE);
        refuses(s + ", others between", "laughs 1;guest 1;plan;laughs 1;", 22, TWICE);
        refuses(s + ", others between", "plan;guest 1;laughs 1;plan;", 22, TWICE);
        takes("no FAULT 4: KINDS may come again", "sea 1;sea 1;sea 1;sea 1;", 4, "rule(0)=4");
        takes("each of them once", "guest 1;laughs 1;plan;", 3, "rule(1)=1 rule(2)=1");
    }

    private static void theFifthTest() {
        String s = "FAULT 5, the 5th TEST (its NAME)";
        takes("TESTS (4 at most)", "plain 1;snake 2;sea 3;age 4;", 4, "rule(0)=4 test(0,0)=0 test(1,0)=1 test(2,0)=2 "
            + "test(3,0)=3 test(3,1)=4");
        for (String kind : KINDS) {
            refuses(s, "sea 1;sea 1;sea 1;sea 1;" + kind + " 1;", 24, TOO_MANY);
            refuses(s + ", whatever is behind it", "sea 1;sea 1;sea 1;sea 1; " + kind, 25, TOO_MANY);
        }
        takes("other lines behind the 4th", "sea 1;sea 1;sea 1;sea 1;guest 5;laughs 5;plan 3;", 7, "rule(0)=4 "
            + "act(0)=3");
    }

    private static void theNinthAct() {
        String eight = "plan 4 4 4 4 4 4 4 4 ";
        for (String act : new String[] {"0", "4", "5", "9", "10", "99", "00"}) {
            refuses("FAULT 5, a 9th ACT (it, whether it is one or not)", eight + act + ";", 21, TOO_MANY);
        }
        refuses("FAULT 5, a 9th ACT, whatever is behind it", eight + "4", 21, TOO_MANY);
        refuses("FAULT 1, a 9th that is no TOKEN", eight + "100;", 21, NO_TOKEN);
        refuses("FAULT 1, a 9th that is no TOKEN", eight + "#", 21, NO_TOKEN);
        refuses("FAULT 2, a 9th that is no NUMBER", eight + "four;", 21, MISPLACED);
    }

    private static void aTestThatThereIsNot() {
        String s = "FAULT 6, a TEST that there is not, behind all (the length)";
        for (int tests = 0; tests < 4; tests++) {
            String told = "sea 9;".repeat(tests);
            refuses(s, told + "plan " + tests + ";", 6 * tests + 7, MISSING);
            refuses(s, "plan " + tests + ";" + told, 6 * tests + 7, MISSING);
            takes("a TEST that there is", told + "sea 9;plan " + tests + ";", tests + 2, "act(0)=" + tests);
            takes("a TEST told behind THE PLAN", "plan " + tests + ";" + told + "sea 9;", tests + 2, "act(0)=" + tests);
        }
        refuses(s, "plan 3;  ", 9, MISSING);
        refuses(s + ", the last ACT", "sea 9;plan 0 4 0 4 0 4 0 1;", 27, MISSING);
        refuses(s + ", the first ACT", "sea 9;plan 1 4 0 4 0 4 0 0;", 27, MISSING);
        takes("a REST needs none", "plan 4 4;", 1, "rule(3)=2");
    }

    private static void theFirstMet() {
        String s = "the first met as it is read";
        refuses(s, "guest 21#", 6, OUT_OF_BOUNDS);
        refuses(s, "guest 21 100", 6, OUT_OF_BOUNDS);
        refuses(s, "sea 0 100;", 4, OUT_OF_BOUNDS);
        refuses(s, "sea 100 0;", 4, NO_TOKEN);
        refuses(s, "sea 5 6 100;", 6, OUT_OF_BOUNDS);
        refuses(s, "ring #", 0, MISPLACED);
        refuses(s, "ring 100", 0, MISPLACED);
        refuses(s, "# ring", 0, NO_TOKEN);
        refuses(s, "guest 1;guest#", 8, TWICE);
        refuses(s, "guest 1;guest", 8, TWICE);
        refuses(s, "guest #;guest 5;", 6, NO_TOKEN);
        refuses(s, "sea 1;sea 1;sea 1;sea 1;sea 0", 24, TOO_MANY);
        refuses(s, "sea 1;sea 1;sea 1;sea 1;sea#", 24, TOO_MANY);
        refuses(s, "plan 4 4 4 4 4 4 4 5 4;", 19, OUT_OF_BOUNDS);
        refuses(s + ", what is behind all comes last", "plan 0;#", 7, NO_TOKEN);
        refuses(s + ", what is behind all comes last", "plan 0;ring", 7, MISPLACED);
        refuses(s + ", what is behind all comes last", "plan 0;sea", 10, MISPLACED);
        refuses(s + ", what is behind all comes last", "plan 3;guest 21;", 13, OUT_OF_BOUNDS);
        refuses(s + ", what is behind all comes last", "plan 3;plan;", 7, TWICE);
        refuses(s + ", what is behind all comes last", "plan 0 4 4 4 4 4 4 4 4;", 21, TOO_MANY);
    }

    private static void takenTellsAll() {
        String s = "a text that is taken tells all, in place of what there was";
        takes(s, "", 0, "rule(0)=0 rule(1)=10 rule(2)=0 rule(3)=0 count(0)=0 count(1)=0 back(0)=STATE back(1)=STATE");
        takes(s, "sea 5;", 1, "rule(0)=1 rule(1)=10 rule(2)=0 rule(3)=0 kinds(0)=15 count(0)=0 count(1)=0");
        takes(s, "age 9;age 9;age 9;age 9;", 4, "kinds(0)=15 kinds(1)=15 kinds(2)=15 test(0,2)=0 test(0,3)=0 "
            + "test(1,2)=0");
        takes("how many lines", "sea 1;sea 1;sea 1;sea 1;guest 1;laughs 1;plan;", 7, "rule(0)=4");
        TABLES.make(Tables.RICH, "sheets are as they were")
            .is("end(0)=6 text()=0 count(3)=3 torn()=3 lay(1,1,0)=1 lay(3,0,0)=-11");
    }

    private static void refusedLeavesAll() {
        Run run = TABLES.make(Tables.RICH, "that which was told stays").is("end(0)=6");
        run.write("age 9;guest 3;laughs 8;plan 0;#")
            .is("text()=-40 fault()=1 rule(0)=4 rule(1)=11 rule(2)=7 rule(3)=8 count(0)=4 count(1)=2 count(2)=0 "
                + "test(0,0)=0 back(0)=7 rule(1)=15 text()=0");
        new Run(DUE, "THE TAPE (empty then), also if it is refused").write("guest#")
            .is("text()=-15 count(2)=0 feed(35)=1 text()=-10 text()=0");
    }

    private static void theFaultOfTheLatest() {
        Run run = new Run(DUE, "5: the FAULT of the latest text(); 0").is("fault()=0 text()=0 fault()=0");
        run.write("sea").is("text()=-13 fault()=2 fault()=2 feed(35)=1 fault()=2 text()=-10 fault()=1");
        run.write("sea 0")
            .is("end(6)=BAD feed(128)=BAD fault()=1 text()=-14 fault()=3 pull(0)=BAD rest(21)=BAD fault()=3");
        run.write("sea 5;").is("fault()=3 text()=1 fault()=0 keep(0)=0 back(0)=0 fault()=0");
    }
}
