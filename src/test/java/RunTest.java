/** Promises 9, 10 and 14: run, state, output. */
public final class RunTest {
    public static void main(String[] args) {
        stepsOfOneRun();
        stepsOfABench();
        states();
        ends();
        traps();
        marks();
        outputs();
        calls();
        branches();
        Check.close();
    }

    private static void stepsOfOneRun() {
        ShadeBench x = Check.bench(0, 0, "a: jmp a");
        Check.due("run(-1)", x.run(-1), Check.NONE);
        Check.due("run(20001)", x.run(20001), Check.NONE);
        Check.due("nothing was done", x.state(2), 0);
        Check.due("run(0)", x.run(0), 0);
        Check.due("run(3)", x.run(3), 3);
        Check.due("run(20000)", x.run(20000), 20000);
        Check.due("STEPS", x.state(2), 20003);
        ShadeBench y = Check.bench(0, 0, "li r1, 1", "li r2, 2", "halt");
        Check.due("run(2)", y.run(2), 2);
        Check.due("run(2) to halt", y.run(2), 1);
        Check.due("run(2) of what has halted", y.run(2), 0);
    }

    private static void stepsOfABench() {
        ShadeBench x = Check.bench(0, 0, "a: jmp a");
        for (int i = 0; i < 8; i++) {
            x.begin(i, 0);
            Check.due("run " + i, x.run(20000), 20000);
        }
        x.begin(9, 0);
        Check.due("run 9", x.run(15000), 15000);
        Check.due("a twin takes some", x.twin(1), 7);
        Check.due("what is left", x.run(20000), 10000);
        Check.due("nothing is left", x.run(1), 0);
        Check.due("a twin without steps", x.twin(1), 7);
        Check.feed(x, "halt");
        Check.due("assemble() then", x.assemble(), 1);
        Check.due("nothing is left for it", x.run(1), 0);
        Check.due("it is under way", x.state(1), 0);

        ShadeBench y = Check.bench(0, 0, "li r1, 0", "a: beq r1, 0, a");
        for (int i = 0; i < 9; i++) {
            y.run(20000);
        }
        y.run(19999);
        Check.due("a twin with one step alone", y.twin(5), 7);
        Check.due("none is left behind it", y.run(1), 0);
    }

    private static void states() {
        ShadeBench x = Check.bench(0, 0, "out r0", "out r0", "new r1, 8", "new r1, 8", "out r1", "a: jmp a");
        x.suppress(3, 1, 1);
        x.run(7);
        int[] due = {5, 0, 7, 1, 1, 1, 3, 2};
        for (int what = 0; what < due.length; what++) {
            Check.due("state(" + what + ")", x.state(what), due[what]);
        }
        Check.due("state(9)", x.state(9), 0);
        Check.due("state(10)", x.state(10), Check.NONE);
        Check.due("state(-1)", x.state(-1), Check.NONE);
        ShadeBench y = Check.ran(0, 0, "add r1, r0, r0", "and r2, r0, 0", "out r2", "halt");
        Check.due("QUIET", y.state(9), 1);
        Check.due("QUIET: reports", y.state(3), 0);
    }

    private static void ends() {
        ShadeBench x = Check.ran(0, 0, "li r1, 1", "halt", "li r1, 2");
        Check.due("halt: state(0)", x.state(0), 1);
        Check.due("halt: state(1)", x.state(1), 1);
        Check.due("halt: state(2)", x.state(2), 2);
        ShadeBench y = Check.ran(0, 0, "li r1, 1", "ret", "li r1, 2");
        Check.due("ret: state(0)", y.state(0), 1);
        Check.due("ret: state(1)", y.state(1), 1);
        Check.due("ret: state(2)", y.state(2), 2);
        ShadeBench z = Check.bench(0, 0, "li r1, 1");
        z.run(1);
        Check.due("END: state(0)", z.state(0), 1);
        Check.due("END: state(1)", z.state(1), 1);
        Check.due("END: state(2)", z.state(2), 1);
        ShadeBench w = Check.bench(0, 0, "; nothing", "a:");
        Check.due("END as it BEGINS", w.state(1), 1);
        Check.due("END as it BEGINS: THE MARK", w.state(8), 7);
    }

    private static void trapOf(int number, int place, String... lines) {
        ShadeBench x = Check.ran(0, 0, lines);
        String name = "trap of " + lines[place];
        Check.due(name + ": state(1)", x.state(1), 1 + number);
        Check.due(name + ": state(0)", x.state(0), place);
        Check.due(name + ": state(2)", x.state(2), place + 1);
        Check.due(name + ": state(8)", x.state(8), (7 * 31 + 4) * 31 + number);
        Check.due(name + ": run(1)", x.run(1), 0);
    }

    private static void traps() {
        trapOf(1, 1, "li r1, 5", "div r2, r1, 0", "halt");
        trapOf(1, 2, "li r1, 5", "li r2, 0", "rem r1, r1, r2");
        trapOf(2, 0, "li r7, 3071");
        trapOf(2, 0, "li r7, 4097");
        trapOf(2, 0, "mv r7, r1");
        trapOf(2, 0, "pop r1");
        trapOf(2, 1, "li r7, 3075", "push r1");
        trapOf(2, 0, "new r7, 4");
        trapOf(3, 32, deepCalls(33));
        trapOf(4, 2, "li r1, 256", "li r2, 256", "copy r1, r2, 257");
        trapOf(4, 2, "li r1, 256", "li r2, 256", "fill r1, r2, -1");
        trapOf(4, 1, "li r1, 256", "mark r1, 257, 1");
        trapOf(4, 1, "li r1, 256", "mark r1, 1, 3");
        trapOf(4, 1, "li r1, 256", "mark r1, 0, -1");
        trapOf(4, 1, "li r1, 4095", "mark r1, 2, 0");
        trapOf(4, 1, "li r1, -1", "look r2, r1, 2");
        ShadeBench x = Check.ran(0, 0, deepCalls(32));
        Check.due("32 calls are kept", x.state(1), 1);
    }

    private static String[] deepCalls(int depth) {
        String[] lines = new String[depth + 1];
        for (int i = 0; i < depth; i++) {
            lines[i] = "a" + i + ": call a" + (i + 1);
        }
        lines[depth] = "a" + depth + ": halt";
        return lines;
    }

    private static void marks() {
        ShadeBench x = Check.ran(0, 0, "li r1, 1", "beq r1, 1, a", "halt", "a: bne r1, 1, a", "li r2, -9", "out r2",
                "jmp b", "halt", "b: call c", "div r1, r1, 0", "c: ret");
        int m = 7;
        int[] added = {1, 2, 3, -9, 4, 1};
        for (int value : added) {
            m = m * 31 + value;
        }
        Check.due("THE MARK", x.state(8), m);
    }

    private static void outputs() {
        ShadeBench x = Check.bench(0, 0, "li r1, 0", "a: out r1", "add r1, r1, 3", "jmp a");
        x.run(1 + 3 * 150);
        Check.due("values put out", x.state(6), 150);
        Check.due("output(0)", x.output(0), 0);
        Check.due("output(1)", x.output(1), 3);
        Check.due("output(99)", x.output(99), 297);
        Check.due("output(100)", x.output(100), Check.NONE);
        Check.due("output(-1)", x.output(-1), Check.NONE);
        ShadeBench y = Check.ran(6, 0, "out r3", "halt");
        Check.due("a value with a SHADE", y.output(0), Check.filling(6, 4)[3]);
        Check.due("one alone", y.output(1), Check.NONE);
    }

    private static void calls() {
        ShadeBench x = Check.ran(0, 0, "call a", "li r2, 2", "halt", "a: li r1, 1", "call b", "ret", "b: li r3, 3", "ret");
        Check.due("call: register(1, 0)", x.register(1, 0), 1);
        Check.due("call: register(2, 0)", x.register(2, 0), 2);
        Check.due("call: register(3, 0)", x.register(3, 0), 3);
        Check.due("call: state(0)", x.state(0), 2);
        Check.due("call: state(2)", x.state(2), 8);
    }

    private static void branchOf(String name, int a, int b, boolean taken) {
        ShadeBench x = Check.ran(0, 0, "li r1, " + a, "li r2, " + b, name + " r1, r2, l", "halt", "l: halt");
        Check.due(name + " " + a + ", " + b, x.state(0), taken ? 4 : 3);
        Check.due(name + " " + a + ", " + b + ": THE MARK", x.state(8), 7 * 31 + (taken ? 1 : 2));
        ShadeBench y = Check.ran(0, 0, "li r1, " + a, name + " r1, " + b + ", l", "halt", "l: halt");
        Check.due(name + " " + a + ", number " + b, y.state(0), taken ? 3 : 2);
    }

    private static void branches() {
        int[] values = {0, 1, -1, Integer.MIN_VALUE, Integer.MAX_VALUE};
        for (int a : values) {
            for (int b : values) {
                branchOf("beq", a, b, a == b);
                branchOf("bne", a, b, a != b);
                branchOf("blt", a, b, a < b);
                branchOf("bge", a, b, a >= b);
                branchOf("bltu", a, b, Integer.compareUnsigned(a, b) < 0);
                branchOf("bgeu", a, b, Integer.compareUnsigned(a, b) >= 0);
            }
        }
    }
}
