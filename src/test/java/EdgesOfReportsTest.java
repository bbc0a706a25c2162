/** Each sentence of REPORTS that tells an edge: whose ORIGIN, how many are kept, what is suppressed, THE MARK. */
public final class EdgesOfReportsTest {
    private static final int MAX = Integer.MAX_VALUE;

    public static void main(String[] args) {
        originsOfBlocks();
        originsOfConditions();
        counts();
        sixty();
        suppressions();
        quiet();
        mark();
        Check.close();
    }

    private static void originsOfBlocks() {
        Check.sentence("of 6, 7 the number of the block in whose SPAN the (first such) byte or address lies, IN USE or KEPT, of several the latest; 0 without);");
        // Blocks of 12 and 8 bytes: SPANS from 1024 to 1055 and from 1056 to 1079.
        int[] bytes = {1023, 1024, 1031, 1044, 1055, 1056, 1063, 1072, 1079, 1080, 3071, 3072, 255, 0, 4095, 4096, -1, MAX};
        int[] due = {0, 1, 1, 1, 1, 2, 2, 2, 2, 0, 0, 0, 0, 0, 0, 0, 0, 0};
        for (int i = 0; i < bytes.length; i++) {
            ShadeBench x = Check.ran(0, 0, "new r1, 12", "new r2, 8", "li r3, " + bytes[i], "lb r4, r3, 0", "sb r3, r3, 0", "free r3", "halt");
            int reports = bytes[i] == 0 ? 2 : 3;
            Check.report(x, "lb at " + bytes[i], 0, 6, 3, due[i], 1);
            Check.report(x, "sb at " + bytes[i], 1, 6, 4, due[i], 1);
            Check.due("at " + bytes[i] + ": reports", x.state(4), reports);
            if (reports == 3) {
                Check.report(x, "free of " + bytes[i], 2, 7, 5, due[i], 1);
            }
        }
        // The first byte that is not OPEN tells it, not the first byte.
        ShadeBench first = Check.ran(0, 0, "new r1, 8", "new r2, 8", "li r3, 1040", "mark r3, 8, 2", "lw r4, r3, 5", "lw r4, r3, -12", "sw r4, r3, 7",
                "copy r1, r3, 9", "fill r3, r4, 9", "halt");
        int[] origins = {2, 1, 2, 2, 2};
        for (int k = 0; k < origins.length; k++) {
            Check.report(first, "the first such byte", k, 6, 4 + k, origins[k], 1);
        }
        ShadeBench kept = Check.ran(0, 0, "new r1, 8", "free r1", "lb r2, r1, 0", "lb r2, r1, 15", "lb r2, r1, -8", "new r3, 512", "free r3", "lb r2, r1, 0",
                "new r4, 0", "lb r2, r1, 0", "halt");
        int[] states = {1, 1, 1, 0, 3};
        int[] places = {2, 3, 4, 7, 9};
        for (int k = 0; k < states.length; k++) {
            Check.report(kept, "KEPT, GONE, another", k, 6, places[k], states[k], 1);
        }
    }

    private static void originsOfConditions() {
        Check.sentence("(of a CONDITION that of both operands as told in 3;");
        String[] lines = {"beq r1, r5, a", "a: beq r5, r1, b", "b: beq r5, r5, c", "c: beq r5, 0, d", "d: beq r7, r0, e", "e: bne r0, r7, f", "f: halt"};
        int[] origins = {6, 6, 6, 6, 1, 1};
        ShadeBench x = Check.ran(0, 0, lines);
        for (int k = 0; k < origins.length; k++) {
            Check.report(x, lines[k], k, 1, k, origins[k], 1);
        }
    }

    private static void counts() {
        Check.sentence("One that is like one before in these three makes its COUNT one more;");
        ShadeBench x = Check.bench(0, 0, "a: out r0", "out r0", "lw r2, r0, 0", "mv r0, r1", "jmp a");
        x.run(5);
        Check.due("four at first", x.state(3), 4);
        Check.report(x, "another KIND at one place", 3, 6, 2, 0, 1);
        x.run(5);
        // Another ORIGIN makes another report, but INVALID is as it was.
        Check.due("seven then", x.state(3), 7);
        Check.report(x, "INVALID", 3, 6, 2, 0, 2);
        Check.report(x, "the first", 0, 3, 0, 1, 1);
        Check.report(x, "the fifth", 4, 3, 0, 2, 1);
        x.run(5000);
        Check.due("seven still", x.state(3), 7);
        Check.due("all with COUNTS", x.state(4), 4 * 1002);
        int[] due = {1, 1, 1, 1002, 1001, 1001, 1001};
        for (int k = 0; k < due.length; k++) {
            Check.due("COUNT of " + k, x.report(k, 3), due[k]);
        }
    }

    private static void sixty() {
        Check.sentence("60 are kept (others are counted alone, each time).");
        ShadeBench x = Check.bench(0, 0, ("a: out r0\n" + "out r0\n".repeat(61) + "jmp a").split("\n"));
        x.run(59);
        Check.due("59", x.state(3), 59);
        Check.due("report(59, 0) of 59", x.report(59, 0), Check.NONE);
        x.run(1);
        Check.due("60", x.state(3), 60);
        Check.report(x, "the 60th", 59, 3, 59, 1, 1);
        x.run(1);
        Check.due("61", x.state(3), 60);
        Check.due("61 were reported", x.state(4), 61);
        Check.due("report(60, 0)", x.report(60, 0), Check.NONE);
        x.run(2);
        Check.due("62 were reported", x.state(4), 62);
        x.run(63);
        Check.due("those kept count on", x.state(3), 60);
        Check.due("others count each time", x.state(4), 124);
        Check.report(x, "the first", 0, 3, 0, 1, 2);
        Check.report(x, "the 60th", 59, 3, 59, 1, 2);
        x.begin(0, 0);
        Check.due("none as it BEGINS", x.state(3), 0);
        x.run(60);
        Check.report(x, "the 60th anew", 59, 3, 59, 1, 1);
    }

    private static void suppressions() {
        Check.sentence("SUPPRESSIONS (20 at most): a KIND (0 all) and instructions from .. to: what matches one of them, when it comes, is counted as suppressed alone.");
        String[] lines = {"out r0", "out r0", "out r0", "out r0", "lw r1, r2, 0", "halt"};
        // KIND, from, to, and how many of six are suppressed: four of OUTPUT, then ADDRESS and INVALID at 4.
        int[][] rows = {{0, 0, 5, 6}, {3, 0, 5, 4}, {3, 1, 2, 2}, {3, 3, 3, 1}, {3, 4, MAX, 0}, {0, 4, 4, 2}, {2, 4, 4, 1}, {6, 0, 4, 1}, {6, 0, 3, 0},
            {7, 0, 5, 0}, {1, 0, 5, 0}, {0, 5, MAX, 0}, {0, 0, 0, 1}, {0, 3, MAX, 3}};
        for (int[] row : rows) {
            ShadeBench x = Check.bench(0, 0, lines);
            x.suppress(row[0], row[1], row[2]);
            x.run(9);
            String name = "suppress(" + row[0] + ", " + row[1] + ", " + row[2] + ")";
            Check.due(name + ": suppressed", x.state(5), row[3]);
            Check.due(name + ": reported", x.state(4), 6 - row[3]);
            Check.due(name + ": kept", x.state(3), 6 - row[3]);
            Check.due(name + ": put out still", x.state(6), 4);
        }
        ShadeBench twice = Check.bench(0, 0, lines);
        twice.suppress(0, 0, 5);
        twice.suppress(3, 0, 5);
        twice.run(9);
        Check.due("what matches two counts once", twice.state(5), 6);
        ShadeBench later = Check.bench(0, 0, "a: out r0", "jmp a");
        later.run(4);
        later.suppress(3, 0, 0);
        later.run(4);
        Check.due("what came ahead stays", later.state(4), 2);
        Check.report(later, "what came ahead stays", 0, 3, 0, 1, 2);
        Check.due("what comes then is suppressed", later.state(5), 2);
    }

    private static void quiet() {
        Check.sentence("QUIET is a run in which nothing was to be reported, suppressed or not.");
        ShadeBench x = Check.bench(0, 0, "li r1, 1", "out r0", "halt");
        Check.due("as it BEGINS", x.state(9), 1);
        x.run(1);
        Check.due("ahead of a report", x.state(9), 1);
        x.run(1);
        Check.due("behind a report", x.state(9), 0);
        x.begin(0, 0);
        Check.due("as it BEGINS again", x.state(9), 1);
        x.suppress(0, 0, 9);
        x.run(9);
        Check.due("what is suppressed", x.state(9), 0);
        Check.due("is not reported", x.state(4), 0);
        ShadeBench trap = Check.ran(0, 0, "div r0, r0, 0");
        Check.due("a TRAP is no report", trap.state(9), 1);
    }

    private static void mark() {
        Check.sentence("m = 7 at first; m = m * 31 + 1 for a branch that is taken, 2 that is not, 3 and then so with the value put out, 4 and then so with a TRAP's number.");
        ShadeBench x = Check.bench(0, 0, "li r1, 0x80000000", "a: out r1", "sub r1, r1, 1", "blt r1, 0x7ffffff0, a", "beq r1, r1, b", "b: bne r1, r1, a",
                "div r1, r1, 0");
        Check.due("at first", x.state(8), 7);
        x.run(1);
        Check.due("nothing yet", x.state(8), 7);
        int m = 7;
        int value = Integer.MIN_VALUE;
        x.run(1);
        m = (m * 31 + 3) * 31 + value;
        Check.due("put out", x.state(8), m);
        x.run(1);
        Check.due("no more", x.state(8), m);
        value--;
        x.run(1);
        m = m * 31 + 2;
        Check.due("not taken", x.state(8), m);
        x.run(1);
        m = m * 31 + 1;
        Check.due("taken, to the next", x.state(8), m);
        x.run(1);
        m = m * 31 + 2;
        Check.due("not taken, of what is the same", x.state(8), m);
        x.run(1);
        m = (m * 31 + 4) * 31 + 1;
        Check.due("a TRAP", x.state(8), m);
        Check.due("the value", x.register(1, 0), value);
        x.begin(0, 0);
        Check.due("at first again", x.state(8), 7);
        ShadeBench jumps = Check.ran(0, 0, "jmp a", "a: call b", "halt", "b: ret");
        Check.due("jmp, call, ret and halt are no branches", jumps.state(8), 7);
        ShadeBench wraps = Check.bench(0, 0, "li r1, -1", "a: out r1", "jmp a");
        wraps.run(1 + 2 * 40);
        int due = 7;
        for (int i = 0; i < 40; i++) {
            due = (due * 31 + 3) * 31 - 1;
        }
        Check.due("it wraps", wraps.state(8), due);
    }
}
