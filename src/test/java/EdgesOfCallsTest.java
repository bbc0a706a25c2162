/** Each sentence of promises 1 to 16 that tells what a call does at an edge: empty, full, too small, too large, refused. */
public final class EdgesOfCallsTest {
    private static final int MIN = Integer.MIN_VALUE;
    private static final int MAX = Integer.MAX_VALUE;
    private static final int[] OUTSIDE = {MIN, -1, MAX};

    public static void main(String[] args) {
        newObject();
        feedPutsBehind();
        feedIsRefused();
        endCuts();
        endIsRefused();
        assembleOfTheTape();
        assembleIsRefused();
        assembleBegins();
        faults();
        otherFaults();
        beginIsRefused();
        beginKeeps();
        inputIsFull();
        suppressIsFull();
        suppressIsRefused();
        runIsRefused();
        runMakesWhatIsLeft();
        stateAtTheEnd();
        stateIsRefused();
        registerIsRefused();
        memoryIsRefused();
        reportIsRefused();
        outputIsFull();
        blockTells();
        blockIsRefused();
        twinMakesFewer();
        twinChangesNothing();
        twinIsRefused();
        manyCalls();
        Check.close();
    }

    private static void newObject() {
        Check.sentence("No program, no INPUT, no suppressions; MODE 0.");
        ShadeBench x = new ShadeBench();
        for (int answer : Check.snapshot(x)) {
            Check.due("an answer without a program", answer, Check.NONE);
        }
        Check.due("end(1) of a new tape", x.end(1), Check.NONE);
        Check.due("end(0) of a new tape", x.end(0), 0);
        Check.feed(x, "and r1, r1, 1\nadd r1, r1, 0\nin r2\nout r0");
        Check.due("assemble()", x.assemble(), 4);
        Check.due("run(9)", x.run(9), 4);
        Check.due("MODE 0", x.register(1, 1), -1);
        Check.due("no INPUT", x.register(2, 0), -1);
        Check.due("no suppressions", x.state(5), 0);
        Check.due("the first of INPUT", x.input(1), 1);
        Check.due("the first suppression", x.suppress(0, 0, 0), 1);
    }

    private static void feedPutsBehind() {
        Check.sentence("Twenty bytes come behind those on the TAPE, of each number the highest first: how many there are;");
        ShadeBench x = new ShadeBench();
        // li r1, 0x0a1b2c3d;;; and then ;;;; (with bytes above 127) \n li r2, 0x90
        Check.due("feed on an empty tape", x.feed(0x6c692072, 0x312c2030, 0x78306131, 0x62326333, 0x643b3b3b), 20);
        Check.due("feed behind it", x.feed(0xfffefd80, 0x0a6c6920, 0x72322c20, 0x30783930, 0x3b3b3b80), 40);
        Check.due("assemble()", x.assemble(), 2);
        x.run(2);
        Check.due("the bytes of the first", x.register(1, 0), 0x0a1b2c3d);
        Check.due("the bytes of the second", x.register(2, 0), 0x90);
        Check.due("feed on a tape that was assembled", x.feed(0, 0, 0, 0, 0), 20);
    }

    private static void feedIsRefused() {
        Check.sentence("NONE, and nothing comes, if there would be more than 4,000.");
        ShadeBench x = new ShadeBench();
        x.feed(0x68616c74, 0x3b3b3b3b, 0x3b3b3b3b, 0x3b3b3b3b, 0x3b3b3b3b); // halt;;;;
        for (int n = 2; n < 200; n++) {
            x.feed(0x20202020, 0x20202020, 0x20202020, 0x20202020, 0x20202020);
        }
        Check.due("feed to 4,000", x.feed(-1, -1, -1, -1, -1), 4000);
        Check.due("feed to 4,020", x.feed(0, 0, 0, 0, 0), Check.NONE);
        Check.due("nothing came", x.end(4001), Check.NONE);
        Check.due("all is there", x.end(4000), 4000);
        Check.due("cut to 3,981", x.end(3981), 3981);
        Check.due("feed to 4,001", x.feed(0, 0, 0, 0, 0), Check.NONE);
        Check.due("nothing came", x.end(3982), Check.NONE);
        Check.due("cut to 3,980", x.end(3980), 3980);
        Check.due("feed to 4,000 again", x.feed(0, 0, 0, 0, 0), 4000);
        Check.due("feed to 4,020 again", x.feed(-1, -1, -1, -1, -1), Check.NONE);
        x.end(20);
        Check.due("the first bytes are as they were", x.assemble(), 1);
    }

    private static void endCuts() {
        Check.sentence("The TAPE has its first n bytes: n;");
        ShadeBench x = new ShadeBench();
        Check.feed(x, "halt\nret\n$$$$$$$$$$$");
        Check.due("all of it", x.end(20), 20);
        Check.due("the first 9", x.end(9), 9);
        Check.due("the same again", x.end(9), 9);
        Check.due("two instructions", x.assemble(), 2);
        Check.feed(x, "halt\nret\n$$$$$$$$$$$");
        Check.due("the first 4", x.end(4), 4);
        Check.due("one instruction", x.assemble(), 1);
        for (String cut : new String[] {"haltaaaa", "halt9", "halt    a", "halt:", "halt,", "halt$"}) {
            Check.feed(x, cut);
            x.end(4);
            Check.due("what was cut of " + cut + " counts for nothing", x.assemble(), 1);
        }
        Check.feed(x, "li r1, 0x123456789a");
        Check.due("digits cut", x.end(16), 16);
        Check.due("what was cut of a number", x.assemble(), 1);
        x.run(1);
        Check.due("what was left of a number", x.register(1, 0), 0x1234567);
        Check.feed(x, "$$$$$$$$$$$$$$$$$$$$");
        Check.due("none", x.end(0), 0);
        Check.due("feed behind none", x.feed(0x68616c74, 0x0a68616c, 0x740a6861, 0x6c743b3b, 0x3b3b3b3b), 20);
        Check.due("three instructions", x.assemble(), 3);
    }

    private static void endIsRefused() {
        Check.sentence("NONE, doing nothing, if it has not so many, or n is below 0.");
        ShadeBench x = new ShadeBench();
        Check.due("end(1) of an empty tape", x.end(1), Check.NONE);
        x.feed(0x68616c74, 0x20202020, 0x20202020, 0x20202020, 0x2020203b);
        for (int n : new int[] {21, MAX, -1, MIN}) {
            Check.due("end(" + n + ")", x.end(n), Check.NONE);
        }
        Check.due("nothing was done", x.end(20), 20);
        Check.due("cut", x.end(19), 19);
        Check.due("what was cut is not there", x.end(20), Check.NONE);
        Check.due("assemble()", x.assemble(), 1);
        Check.due("end(1) behind assemble()", x.end(1), Check.NONE);
    }

    private static void assembleOfTheTape() {
        Check.sentence("The TAPE (empty then) is a TEXT: how many instructions;");
        ShadeBench x = new ShadeBench();
        Check.due("an empty tape", x.assemble(), 0);
        Check.due("it is a program", x.state(1), 1);
        Check.feed(x, "ret\n".repeat(200));
        Check.due("200 instructions", x.assemble(), 200);
        Check.due("the tape is empty", x.end(1), Check.NONE);
        Check.due("the empty tape again", x.assemble(), 0);
        Check.feed(x, "$");
        Check.due("a fault", x.assemble(), Check.NONE);
        Check.due("the tape is empty behind a fault", x.end(1), Check.NONE);
        Check.due("and is a TEXT", x.assemble(), 0);
    }

    private static ShadeBench halfway() {
        ShadeBench x = Check.bench(7, 1, "in r1", "call a", "in r5", "lw r6, r4, 4", "out r3", "halt", "a: and r2, r2, 1",
                "add r3, r2, 256", "new r4, 8", "push r4", "out r0", "out r2", "pop r4", "ret");
        x.input(5);
        x.input(6);
        x.suppress(3, 11, 11);
        x.run(7);
        return x;
    }

    private static void assembleIsRefused() {
        Check.sentence("NONE: a FAULT (the program before stays, and all of it).");
        ShadeBench x = halfway();
        ShadeBench y = halfway();
        int[] before = Check.snapshot(x);
        Check.feed(x, "li r1, 1\nout r1\nfoo");
        Check.due("assemble() with a fault", x.assemble(), Check.NONE);
        Check.same("behind it", Check.snapshot(x), before);
        Check.due("INPUT stays", x.input(7), 3);
        Check.due("suppressions stay", x.suppress(1, 0, 0), 2);
        x.run(20);
        y.run(20);
        Check.same("it goes on", Check.snapshot(x), Check.snapshot(y));
        Check.due("twin(9)", x.twin(9), y.twin(9));
        ShadeBench z = new ShadeBench();
        Check.feed(z, "foo");
        Check.due("assemble() of a new bench", z.assemble(), Check.NONE);
        Check.due("there is no program still", z.state(1), Check.NONE);
        Check.due("there is none to begin", z.begin(0, 0), false);
    }

    private static void assembleBegins() {
        Check.sentence("Else that program BEGINS, by FILLING 0, in MODE 0, without suppressions and INPUT.");
        ShadeBench x = Check.bench(7, 1, "out r0", "in r1", "new r2, 8", "div r1, r1, 0");
        x.input(5);
        x.suppress(0, 0, 199);
        x.run(20);
        String text = "and r1, r1, 1\nadd r1, r1, 0\nin r2\nout r0";
        Check.feed(x, text);
        Check.due("assemble()", x.assemble(), 4);
        ShadeBench y = new ShadeBench();
        Check.feed(y, text);
        y.assemble();
        Check.same("as on a new bench", Check.snapshot(x), Check.snapshot(y));
        Check.due("FILLING 0", x.register(0, 0), Check.filling(0, 1)[0]);
        x.run(4);
        Check.due("MODE 0", x.register(1, 1), -1);
        Check.due("no INPUT", x.register(2, 0), -1);
        Check.due("no suppressions", x.state(4), 1);
        Check.due("the first of INPUT", x.input(1), 1);
        Check.due("the first suppression", x.suppress(0, 0, 0), 1);
    }

    private static void faults() {
        Check.sentence("Of the latest assemble() what 0: its FAULT (0), 1: its place, 2: its line (NONE without).");
        ShadeBench x = new ShadeBench();
        int[][] due = {{0, -1, -1}, {1, 6, 2}, {0, -1, -1}};
        String[] texts = {"", "halt\n $", "halt"};
        for (int i = 0; i < texts.length; i++) {
            Check.feed(x, texts[i]);
            x.assemble();
            for (int what = 0; what < 3; what++) {
                Check.due("fault(" + what + ") of text " + i, x.fault(what), due[i][what]);
            }
        }
        Check.feed(x, "$");
        Check.due("fault(0) ahead of assemble()", x.fault(0), 0);
        x.assemble();
        x.begin(0, 0);
        x.run(1);
        Check.due("fault(0) behind other calls", x.fault(0), 1);
        Check.due("fault(1) at the first byte", x.fault(1), 0);
        Check.due("fault(2) in the first line", x.fault(2), 1);
    }

    private static void otherFaults() {
        Check.sentence("NONE for another what.");
        ShadeBench x = new ShadeBench();
        Check.feed(x, "$");
        for (int i = 0; i < 2; i++) {
            for (int what : OUTSIDE) {
                Check.due("fault(" + what + ")", x.fault(what), Check.NONE);
            }
            Check.due("fault(3)", x.fault(3), Check.NONE);
            x.assemble();
        }
    }

    private static void beginIsRefused() {
        Check.sentence("true; false, doing nothing, without a program, or for another MODE.");
        ShadeBench none = new ShadeBench();
        Check.due("begin(0, 0) without a program", none.begin(0, 0), false);
        Check.due("begin(0, 1) without a program", none.begin(0, 1), false);
        Check.due("there is none then", none.state(0), Check.NONE);
        ShadeBench x = halfway();
        int[] before = Check.snapshot(x);
        for (int mode : new int[] {MIN, -1, 2, MAX}) {
            Check.due("begin(3, " + mode + ")", x.begin(3, mode), false);
        }
        Check.same("nothing was done", Check.snapshot(x), before);
        x.run(1);
        Check.due("the MODE stays", x.register(3, 1), 1);
        Check.due("begin(3, 0)", x.begin(3, 0), true);
        Check.due("begin(3, 1)", x.begin(3, 1), true);
    }

    private static void beginKeeps() {
        Check.sentence("(INPUT begins anew; suppressions stay.)");
        ShadeBench x = Check.bench(0, 0, "in r1", "out r0", "halt");
        x.input(41);
        x.suppress(3, 1, 1);
        for (int i = 0; i < 3; i++) {
            x.begin(i, i & 1);
            x.run(9);
            Check.due("the first of INPUT", x.register(1, 0), 41);
            Check.due("suppressed", x.state(5), 1);
            Check.due("reported", x.state(4), 0);
        }
        Check.due("the second of INPUT", x.input(1), 2);
        Check.due("the second suppression", x.suppress(1, 1, 1), 2);
    }

    private static void inputIsFull() {
        Check.sentence("how many; NONE if there are 100, or without a program.");
        Check.due("input(1) without a program", new ShadeBench().input(1), Check.NONE);
        ShadeBench x = Check.bench(0, 0, "a: in r1", "jmp a");
        int[] some = {MIN, MAX, 0, -1};
        for (int n = 1; n <= 100; n++) {
            Check.due("input " + n, x.input(n <= 4 ? some[n - 1] : n), n);
        }
        Check.due("input 101", x.input(5), Check.NONE);
        Check.due("input 101 again", x.input(5), Check.NONE);
        for (int n = 0; n < 4; n++) {
            x.run(1);
            Check.due("number " + n, x.register(1, 0), some[n]);
            x.run(1);
        }
        x.run(2 * 95 + 1);
        Check.register(x, "the 100th", 1, 100, 0, 0);
        x.run(2);
        Check.register(x, "none is behind it", 1, -1, 0, 0);
        Check.due("what was read counts still", x.input(5), Check.NONE);
    }

    private static void suppressIsFull() {
        Check.sentence("A suppression: how many there are; NONE: there are 20,");
        ShadeBench x = Check.bench(0, 0, "out r0", "out r0", "out r0", "halt");
        for (int n = 1; n <= 20; n++) {
            Check.due("suppression " + n, x.suppress(n == 20 ? 3 : 1, n == 20 ? 2 : 0, 9), n);
        }
        Check.due("suppression 21", x.suppress(0, 0, 9), Check.NONE);
        Check.due("suppression 21 again", x.suppress(3, 0, 9), Check.NONE);
        x.run(9);
        Check.due("the 20th suppresses, the 21st does not", x.state(5), 1);
        Check.due("reported", x.state(4), 2);
    }

    private static void suppressIsRefused() {
        Check.sentence("kind is not 0 .. 7, from above to, from below 0, or no program.");
        Check.due("suppress(0, 0, 0) without a program", new ShadeBench().suppress(0, 0, 0), Check.NONE);
        ShadeBench x = Check.bench(0, 0, "out r0", "halt");
        int[][] refused = {{-1, 0, 9}, {8, 0, 9}, {MIN, 0, 9}, {MAX, 0, 9}, {0, 1, 0}, {3, MAX, 0}, {0, -1, 9}, {3, MIN, 9},
            {3, -1, -1}, {0, 0, -1}};
        for (int[] one : refused) {
            Check.due("suppress(" + one[0] + ", " + one[1] + ", " + one[2] + ")", x.suppress(one[0], one[1], one[2]), Check.NONE);
        }
        x.run(1);
        Check.due("none of them suppresses", x.state(5), 0);
        int[][] taken = {{0, 5, 5}, {7, 5, 6}, {3, 0, 0}, {3, MAX, MAX}, {3, 5, MAX}};
        for (int i = 0; i < taken.length; i++) {
            Check.due("suppression " + (i + 1), x.suppress(taken[i][0], taken[i][1], taken[i][2]), i + 1);
        }
        x.begin(0, 0);
        x.run(1);
        Check.due("one of these does", x.state(5), 1);
    }

    private static void runIsRefused() {
        Check.sentence("NONE for another n, or without a program.");
        Check.due("run(0) without a program", new ShadeBench().run(0), Check.NONE);
        ShadeBench x = Check.bench(0, 0, "a: add r1, r1, 1", "jmp a");
        for (int n : new int[] {MIN, -1, 20001, MAX}) {
            Check.due("run(" + n + ")", x.run(n), Check.NONE);
        }
        Check.due("nothing was done", x.state(2), 0);
        Check.due("run(0)", x.run(0), 0);
        Check.due("run(0) does nothing", x.state(2), 0);
        Check.due("run(1)", x.run(1), 1);
        Check.due("one STEP", x.state(0), 1);
        Check.due("run(20000)", x.run(20000), 20000);
        Check.due("STEPS", x.state(2), 20001);
    }

    private static void runMakesWhatIsLeft() {
        Check.sentence("Up to n STEPS (0 .. 20000; no more than are left of 200,000 that a bench makes, twins' too): how many were made;");
        ShadeBench ended = Check.bench(0, 0, "li r1, 1", "halt");
        Check.due("it ends", ended.run(20000), 2);
        Check.due("it has ended", ended.run(20000), 0);
        ShadeBench x = Check.bench(0, 0, "a: jmp a");
        for (int i = 0; i < 9; i++) {
            x.begin(i, 0);
            Check.due("run " + i, x.run(20000), 20000);
            Check.due("refused ones cost nothing", x.run(20001), Check.NONE);
        }
        Check.due("run to 199,998", x.run(19998), 19998);
        Check.feed(x, "a: add r1, r1, 1\njmp a");
        x.assemble();
        Check.due("the last two but one", x.run(1), 1);
        Check.due("the last one", x.run(20000), 1);
        Check.due("none is left", x.run(20000), 0);
        Check.due("none is left", x.run(0), 0);
        Check.due("it is under way still", x.state(1), 0);
        x.begin(0, 0);
        Check.due("none is left for what begins", x.run(1), 0);
        ShadeBench y = Check.bench(0, 0, "a: jmp a");
        for (int i = 0; i < 4; i++) {
            y.run(20000);
        }
        y.twin(1);
        y.run(19999);
        Check.due("a twin takes as many", y.run(20000), 20000);
        Check.due("and one is left", y.run(20000), 1);
        Check.due("and none", y.run(20000), 0);
    }

    private static void stateAtTheEnd() {
        Check.sentence("What 0: the next instruction (at the END how many there are; of one by which it ended that one),");
        String[][] programs = {{}, {"halt"}, {"li r1, 1"}, {"li r1, 1", "ret", "halt"}, {"li r1, 1", "div r1, r1, 0", "halt"},
            {"jmp a", "halt", "a:"}, {"li r1, 1", "li r7, 0", "halt"}};
        int[] place = {0, 0, 1, 1, 1, 2, 1};
        int[] condition = {1, 1, 1, 1, 2, 1, 3};
        for (int i = 0; i < programs.length; i++) {
            ShadeBench x = Check.ran(0, 0, programs[i]);
            Check.due("program " + i + ": state(0)", x.state(0), place[i]);
            Check.due("program " + i + ": state(1)", x.state(1), condition[i]);
        }
        ShadeBench x = Check.bench(0, 0, "li r1, 1", "halt");
        Check.due("the first is the next one", x.state(0), 0);
        x.run(1);
        Check.due("the second is the next one", x.state(0), 1);
        Check.due("it is under way", x.state(1), 0);
    }

    private static void stateIsRefused() {
        Check.sentence("NONE for another what, or without a program.");
        ShadeBench none = new ShadeBench();
        for (int what = -1; what <= 10; what++) {
            Check.due("state(" + what + ") without a program", none.state(what), Check.NONE);
        }
        ShadeBench x = Check.ran(0, 0, "halt");
        for (int what : new int[] {MIN, -1, 10, MAX}) {
            Check.due("state(" + what + ")", x.state(what), Check.NONE);
        }
        int[] due = {0, 1, 1, 0, 0, 0, 0, 0, 7, 1};
        for (int what = 0; what < due.length; what++) {
            Check.due("state(" + what + ")", x.state(what), due[what]);
        }
    }

    private static void registerIsRefused() {
        Check.sentence("Of register r what 0: value, 1: SHADE, 2: ORIGIN. NONE if there is none such.");
        ShadeBench x = Check.bench(0, 0, "halt");
        for (int r : new int[] {MIN, -1, 8, MAX}) {
            for (int what = 0; what < 3; what++) {
                Check.due("register(" + r + ", " + what + ")", x.register(r, what), Check.NONE);
            }
        }
        for (int what : new int[] {MIN, -1, 3, MAX}) {
            Check.due("register(0, " + what + ")", x.register(0, what), Check.NONE);
            Check.due("register(7, " + what + ")", x.register(7, what), Check.NONE);
        }
        Check.register(x, "the first", 0, Check.filling(0, 1)[0], -1, 1);
        Check.register(x, "the last", 7, 4096, 0, 0);
        Check.due("register(7, 0) without a program", new ShadeBench().register(7, 0), Check.NONE);
    }

    private static void memoryIsRefused() {
        Check.sentence("Of a byte of MEMORY what 0: value (0 .. 255), 1: SHADE, 2: ORIGIN, 3: 1 if OPEN. NONE if there is none such.");
        ShadeBench x = Check.ran(0, 0, "li r1, 256", "li r2, -1", "sb r2, r1, 0", "halt");
        for (int a : new int[] {MIN, -1, 4096, MAX}) {
            for (int what = 0; what < 4; what++) {
                Check.due("memory(" + a + ", " + what + ")", x.memory(a, what), Check.NONE);
            }
        }
        for (int what : new int[] {MIN, -1, 4, MAX}) {
            Check.due("memory(0, " + what + ")", x.memory(0, what), Check.NONE);
            Check.due("memory(4095, " + what + ")", x.memory(4095, what), Check.NONE);
        }
        Check.memory(x, "the first", 0, 0, 255, 0, 0);
        Check.memory(x, "the last", 4095, 0, 255, 0, 0);
        Check.memory(x, "the greatest value", 256, 255, 0, 0, 1);
        Check.due("memory(256, 3) without a program", new ShadeBench().memory(256, 3), Check.NONE);
    }

    private static void reportIsRefused() {
        Check.sentence("Of report k what 0: KIND, 1: instruction, 2: ORIGIN, 3: COUNT. NONE if there is none such.");
        ShadeBench x = Check.bench(0, 0, "out r0", "out r1", "halt");
        Check.due("report(0, 0) ahead of all", x.report(0, 0), Check.NONE);
        x.run(9);
        Check.report(x, "the first", 0, 3, 0, 1, 1);
        Check.report(x, "the last", 1, 3, 1, 2, 1);
        for (int k : new int[] {MIN, -1, 2, 60, MAX}) {
            for (int what = 0; what < 4; what++) {
                Check.due("report(" + k + ", " + what + ")", x.report(k, what), Check.NONE);
            }
        }
        for (int what : new int[] {MIN, -1, 4, MAX}) {
            Check.due("report(0, " + what + ")", x.report(0, what), Check.NONE);
        }
        Check.due("report(0, 0) without a program", new ShadeBench().report(0, 0), Check.NONE);
        x.begin(0, 0);
        Check.due("report(0, 0) as it BEGINS", x.report(0, 0), Check.NONE);
    }

    private static void outputIsFull() {
        Check.sentence("The k-th value put out (100 are kept); NONE if there is none such.");
        ShadeBench x = Check.bench(0, 0, "li r1, 1000", "a: out r1", "add r1, r1, 1", "jmp a");
        Check.due("output(0) ahead of all", x.output(0), Check.NONE);
        x.run(2);
        Check.due("output(0)", x.output(0), 1000);
        Check.due("output(1) of one", x.output(1), Check.NONE);
        x.run(3 * 98);
        Check.due("output(98)", x.output(98), 1098);
        Check.due("output(99) of 99", x.output(99), Check.NONE);
        x.run(3 * 2);
        Check.due("101 are put out", x.state(6), 101);
        Check.due("output(99)", x.output(99), 1099);
        Check.due("output(100)", x.output(100), Check.NONE);
        Check.due("output(0) is as it was", x.output(0), 1000);
        for (int k : OUTSIDE) {
            Check.due("output(" + k + ")", x.output(k), Check.NONE);
        }
        Check.due("output(0) without a program", new ShadeBench().output(0), Check.NONE);
        x.begin(0, 0);
        Check.due("output(0) as it BEGINS", x.output(0), Check.NONE);
        Check.due("none are put out", x.state(6), 0);
    }

    private static void blockTells() {
        Check.sentence("2: 0 GONE, 1 KEPT, 2 IN USE, 3: the instruction that made it, 4: that which freed it (NONE), 5: what LEAKS says (NONE if it is not IN USE).");
        ShadeBench x = Check.ran(0, 0, "new r1, 8", "new r2, 512", "zero r3, 0", "free r1", "free r2", "halt");
        int[][] due = {{1032, 8, 0, 0, 3, -1}, {1056, 512, 1, 1, 4, -1}, {1584, 0, 2, 2, -1, 3}};
        for (int n = 1; n <= 3; n++) {
            for (int what = 0; what < 6; what++) {
                Check.due("block(" + n + ", " + what + ")", x.block(n, what), due[n - 1][what]);
            }
        }
    }

    private static void blockIsRefused() {
        Check.sentence("Of block n (from 1 on) what 0: address, 1: size,");
        ShadeBench x = Check.bench(0, 0, "new r1, 8", "new r2, 513", "halt");
        Check.due("block(1, 0) ahead of all", x.block(1, 0), Check.NONE);
        Check.due("block(1, 5) ahead of all", x.block(1, 5), Check.NONE);
        x.run(9);
        for (int n : new int[] {MIN, -1, 0, 2, 100, 101, MAX}) {
            for (int what = 0; what < 6; what++) {
                Check.due("block(" + n + ", " + what + ")", x.block(n, what), Check.NONE);
            }
        }
        for (int what : new int[] {MIN, -1, 6, MAX}) {
            Check.due("block(1, " + what + ")", x.block(1, what), Check.NONE);
        }
        Check.due("block(1, 0)", x.block(1, 0), 1032);
        Check.due("block(1, 1)", x.block(1, 1), 8);
        Check.due("block(1, 0) without a program", new ShadeBench().block(1, 0), Check.NONE);
        Check.due("block(1, 5) without a program", new ShadeBench().block(1, 5), Check.NONE);
        x.begin(0, 0);
        Check.due("block(1, 0) as it BEGINS", x.block(1, 0), Check.NONE);
        Check.due("block(1, 5) as it BEGINS", x.block(1, 5), Check.NONE);
    }

    private static void twinMakesFewer() {
        Check.sentence("as many STEPS as were made (fewer, if it ends, or no more are left), without suppressions: its THE MARK.");
        String[] loop = {"li r1, 0", "a: beq r1, 0, a"};
        ShadeBench x = Check.bench(0, 0, loop);
        Check.due("no STEP was made", x.twin(1), 7);
        x.run(1);
        Check.due("one STEP was made", x.twin(1), 7);
        x.run(1);
        Check.due("two STEPS were made", x.twin(1), 7 * 31 + 1);
        int first = Check.filling(0, 1)[0];
        ShadeBench y = Check.bench(0, 0, "bne r0, " + first + ", e", "a: jmp a", "e:");
        y.run(50);
        Check.due("a twin that ends", y.twin(1), 7 * 31 + 1);
        Check.due("a twin that does not", y.twin(0), 7 * 31 + 2);
        ShadeBench z = Check.bench(0, 0, loop);
        for (int i = 0; i < 9; i++) {
            z.run(20000);
        }
        z.run(19997);
        Check.due("three are left", z.twin(1), (7 * 31 + 1) * 31 + 1);
        Check.due("none is left", z.twin(1), 7);
        Check.due("none is left to run", z.run(1), 0);
        ShadeBench w = Check.bench(0, 0, "out r0", "halt");
        w.suppress(0, 0, 9);
        w.run(9);
        Check.due("suppressed here", w.twin(4), (7 * 31 + 3) * 31 + Check.filling(4, 1)[0]);
    }

    private static void twinChangesNothing() {
        Check.sentence("(Nothing else is changed.)");
        ShadeBench x = halfway();
        ShadeBench y = halfway();
        int[] before = Check.snapshot(x);
        for (int filling : new int[] {0, 7, -1, MIN, MAX}) {
            x.twin(filling);
        }
        Check.same("behind twins", Check.snapshot(x), before);
        Check.due("INPUT", x.input(7), y.input(7));
        Check.due("suppressions", x.suppress(1, 0, 0), y.suppress(1, 0, 0));
        x.run(20);
        y.run(20);
        Check.same("it goes on", Check.snapshot(x), Check.snapshot(y));
        Check.due("the tape", x.end(1), Check.NONE);
        Check.due("fault(0)", x.fault(0), 0);
    }

    private static void twinIsRefused() {
        Check.sentence("NONE without a program.");
        ShadeBench x = new ShadeBench();
        Check.due("twin(0)", x.twin(0), Check.NONE);
        Check.feed(x, "$");
        x.assemble();
        Check.due("twin(0) behind a fault", x.twin(0), Check.NONE);
        Check.feed(x, "");
        x.assemble();
        Check.due("twin(0) of an empty program", x.twin(0), 7);
    }

    private static void manyCalls() {
        Check.sentence("An object is used for at most 512 calls after it has been made;");
        ShadeBench x = new ShadeBench();
        x.feed(0x613a6f75, 0x74207231, 0x0a616464, 0x2072312c, 0x72312c31); // a:out r1 / add r1,r1,1
        x.feed(0x0a6a6d70, 0x20613b3b, 0x3b3b3b3b, 0x3b3b3b3b, 0x3b3b3b3b); // jmp a
        Check.due("assemble()", x.assemble(), 3);
        int first = Check.filling(0, 2)[1];
        for (int n = 1; n <= 500; n++) {
            Check.due("run " + n, x.run(3), 3);
        }
        Check.due("call 504: STEPS", x.state(2), 1500);
        Check.due("call 505: values put out", x.state(6), 500);
        Check.due("call 506: the first", x.output(0), first);
        Check.due("call 507: the last", x.output(99), first + 99);
        Check.due("call 508", x.register(1, 0), first + 500);
        Check.due("call 509", x.input(1), 1);
        Check.due("call 510", x.suppress(0, 0, 2), 1);
        Check.due("call 511", x.run(3), 3);
        Check.due("call 512: suppressed", x.state(5), 1);
    }
}
