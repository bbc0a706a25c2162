/** Promise 13: report. */
public final class ReportTest {
    public static void main(String[] args) {
        wrongInputs();
        kinds();
        conditions();
        counts();
        sixtyAreKept();
        originsOfBlocks();
        Check.close();
    }

    private static void wrongInputs() {
        ShadeBench x = Check.ran(0, 0, "out r0", "halt");
        Check.report(x, "one", 0, 3, 0, 1, 1);
        Check.due("report(0, 4)", x.report(0, 4), Check.NONE);
        Check.due("report(0, -1)", x.report(0, -1), Check.NONE);
        Check.due("report(1, 0)", x.report(1, 0), Check.NONE);
        Check.due("report(-1, 0)", x.report(-1, 0), Check.NONE);
        Check.due("report(60, 0)", x.report(60, 0), Check.NONE);
    }

    private static void kinds() {
        ShadeBench x = Check.ran(0, 0, "beq r0, 0, a", "a: lb r6, r1, 0", "out r2", "or r3, r3, 1", "div r6, r3, r3",
                "new r6, r4", "li r6, 3", "sb r6, r6, 0", "free r6", "halt");
        Check.report(x, "CONDITION", 0, 1, 0, 1, 1);
        Check.report(x, "ADDRESS", 1, 2, 1, 2, 1);
        Check.report(x, "INVALID of the load", 2, 6, 1, 0, 1);
        Check.report(x, "OUTPUT", 3, 3, 2, 3, 1);
        Check.report(x, "DIVISOR", 4, 4, 4, 4, 1);
        Check.report(x, "SIZE", 5, 5, 5, 5, 1);
        Check.report(x, "INVALID", 6, 6, 7, 0, 1);
        Check.report(x, "INVALID FREE", 7, 7, 8, 0, 1);
        Check.due("all of them", x.state(3), 8);
        Check.due("all of them", x.state(4), 8);
    }

    private static void conditions() {
        ShadeBench x = Check.ran(0, 0, "beq r2, r5, a", "a: bne r5, r2, b", "b: blt r1, 5, c", "c: bgeu r7, r3, d", "d: halt");
        Check.report(x, "the greater of both", 0, 1, 0, 6, 1);
        Check.report(x, "the greater of both", 1, 1, 1, 6, 1);
        Check.report(x, "a alone", 2, 1, 2, 2, 1);
        Check.report(x, "b alone", 3, 1, 3, 4, 1);
        // One set bit that differs settles it in FINE mode.
        String[] settled = {"and r1, r1, 3", "or r1, r1, 8", "beq r1, 4, a", "a: bltu r1, 8, b", "b: bge r1, 12, c",
            "c: bne r1, 9, d", "d: halt"};
        ShadeBench fine = Check.ran(0, 1, settled);
        Check.due("FINE: one alone", fine.state(3), 1);
        Check.report(fine, "FINE", 0, 1, 5, 2, 1);
        ShadeBench coarse = Check.ran(0, 0, settled);
        Check.due("COARSE: all", coarse.state(3), 4);
    }

    private static void counts() {
        ShadeBench x = Check.bench(0, 0, "a: out r0", "mv r0, r1", "jmp a");
        x.run(30);
        Check.due("two reports", x.state(3), 2);
        Check.due("ten reported", x.state(4), 10);
        Check.report(x, "of r0", 0, 3, 0, 1, 1);
        Check.report(x, "of r1", 1, 3, 0, 2, 9);
    }

    private static void sixtyAreKept() {
        String[] lines = new String[64];
        for (int i = 0; i < 62; i++) {
            lines[i] = (i == 0 ? "a: " : "") + "out r0";
        }
        lines[62] = "jmp a";
        lines[63] = "halt";
        ShadeBench x = Check.bench(0, 0, lines);
        x.run(63);
        Check.due("60 are kept", x.state(3), 60);
        Check.due("all are counted", x.state(4), 62);
        x.run(63);
        Check.due("60 are kept then", x.state(3), 60);
        Check.due("all are counted then", x.state(4), 124);
        Check.report(x, "the last", 59, 3, 59, 1, 2);
        Check.due("report(60, 0)", x.report(60, 0), Check.NONE);
        Check.due("values put out", x.state(6), 124);
    }

    private static void originsOfBlocks() {
        ShadeBench x = Check.ran(0, 0, "new r1, 12", "new r2, 8", "lw r3, r1, -4", "lw r3, r1, 12", "lw r3, r1, 20",
                "lw r3, r1, 24", "lw r3, r2, 16", "free r1", "lw r3, r1, 0", "free r1", "add r4, r2, 4", "free r4",
                "lw r3, r1, -12", "halt");
        Check.report(x, "ahead of the first", 0, 6, 2, 1, 1);
        Check.report(x, "behind the first", 1, 6, 3, 1, 1);
        Check.report(x, "at the end of its SPAN", 2, 6, 4, 1, 1);
        Check.report(x, "in the SPAN of the second", 3, 6, 5, 2, 1);
        Check.report(x, "behind the SPAN of the second", 4, 6, 6, 0, 1);
        Check.report(x, "in what is KEPT", 5, 6, 8, 1, 1);
        Check.report(x, "freed twice", 6, 7, 9, 1, 1);
        Check.report(x, "freed inside", 7, 7, 11, 2, 1);
        Check.report(x, "ahead of the HEAP", 8, 6, 12, 0, 1);
        ShadeBench y = Check.ran(0, 0, "new r1, 6", "lw r3, r1, 4", "lw r3, r1, 3", "halt");
        Check.report(y, "the first such byte", 0, 6, 1, 1, 1);
        Check.due("both in the SPAN", y.state(3), 2);
        ShadeBench z = Check.ran(0, 0, "new r1, 8", "new r2, 8", "li r3, 1040", "mark r3, 8, 2", "lw r4, r3, 6", "lw r4, r3, -16",
                "lw r4, r3, -17", "halt");
        Check.report(z, "the first such byte", 0, 6, 4, 2, 1);
        Check.report(z, "the first byte of the HEAP", 1, 6, 5, 1, 1);
        Check.report(z, "the byte ahead of the HEAP", 2, 6, 6, 0, 1);
    }
}
