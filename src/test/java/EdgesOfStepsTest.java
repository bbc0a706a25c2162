/** Each sentence of STEPS that tells an edge of addresses, of the STACK, of calls, of counts, and which TRAP comes. */
public final class EdgesOfStepsTest {
    private static final int MIN = Integer.MIN_VALUE;
    private static final int MAX = Integer.MAX_VALUE;
    private static final int FILLING = 99;

    public static void main(String[] args) {
        sums();
        addressIsReported();
        invalidLoads();
        invalidStores();
        endsOfMemory();
        loads();
        stores();
        push();
        pop();
        stackPointer();
        stackOpens();
        stackTraps();
        calls();
        returns();
        counts();
        copiesAtOnce();
        fills();
        reportsAhead();
        invalidOnce();
        marks();
        marksRefused();
        looks();
        looksRefused();
        quietOnes();
        traps();
        steps();
        Check.close();
    }

    private static void condition(ShadeBench x, String name, int due) {
        Check.due(name + ": state(1)", x.state(1), due);
    }

    private static void sums() {
        Check.sentence("LOADS, STORES of 1, 2, 4 bytes at the sum of the second operand and N (wrapping), of the first operand:");
        String[][] sums = {{"256", "44"}, {"301", "-1"}, {"-1", "301"}, {"0x80000000", "0x8000012c"}, {"0x7fffffff", "0x8000012d"},
            {"-2147483648", "-2147483348"}, {"301", "4294967295"}, {"4294967295", "301"}};
        for (String[] sum : sums) {
            ShadeBench x = Check.ran(FILLING, 0, "li r1, " + sum[0], "li r2, 0x04030201", "sw r2, r1, " + sum[1], "lw r3, r1, " + sum[1],
                    "lhu r4, r1, " + sum[1], "lbu r5, r1, " + sum[1], "halt");
            String name = sum[0] + " and " + sum[1];
            Check.memory(x, name, 300, 1, 0, 0, 1);
            Check.memory(x, name, 303, 4, 0, 0, 1);
            Check.memory(x, name, 304, 0, 0, 0, 1);
            Check.register(x, name, 3, 0x04030201, 0, 0);
            Check.register(x, name, 4, 0x0201, 0, 0);
            Check.register(x, name, 5, 1, 0, 0);
            Check.due(name + ": QUIET", x.state(9), 1);
        }
    }

    private static void addressIsReported() {
        Check.sentence("ADDRESS is reported if the register's SHADE is not 0 (N is set); then INVALID,");
        for (String name : new String[] {"lb", "lbu", "lh", "lhu", "lw", "sb", "sh", "sw"}) {
            ShadeBench x = Check.shaded(1, new int[] {512, MIN, 0, 0}, name + " r3, r1, 0");
            Check.report(x, name, 0, 2, 4, 2, 1);
            Check.report(x, name, 1, 6, 4, 0, 1);
            Check.due(name + ": all", x.state(4), 2);
            ShadeBench y = Check.shaded(1, new int[] {256, 1, 0, 0}, name + " r3, r1, 0");
            Check.report(y, name, 0, 2, 4, 2, 1);
            Check.due(name + ": all", y.state(4), 1);
            ShadeBench z = Check.shaded(1, new int[] {256, 0, 0, 0}, name + " r3, r1, -1");
            Check.report(z, name, 0, 6, 4, 0, 1);
            Check.due(name + ": all", z.state(4), 1);
        }
    }

    private static void invalidLoads() {
        Check.sentence("if a byte of it is not OPEN or not 0 .. 4095: a load gives 0, set;");
        String[] names = {"lb", "lbu", "lh", "lhu", "lw"};
        int[] widths = {1, 1, 2, 2, 4};
        for (int i = 0; i < names.length; i++) {
            for (int a : new int[] {251, 252, 253, 254, 255, 256, 257, 507, 508, 509, 510, 511, 512, 513, -1, -4, MIN, MAX, MAX - 3}) {
                boolean valid = a >= 256 && a <= 512 - widths[i];
                ShadeBench x = Check.ran(FILLING, 0, "li r1, 256", "li r2, 0x11", "fill r1, r2, 256", "li r1, " + a,
                        names[i] + " r3, r1, 0", "halt");
                int due = valid ? 0x11111111 >>> 32 - 8 * widths[i] : 0;
                Check.register(x, names[i] + " at " + a, 3, due, 0, 0);
                Check.due(names[i] + " at " + a + ": reports", x.state(4), valid ? 0 : 1);
                Check.due(names[i] + " at " + a + ": KIND", x.report(0, 0), valid ? Check.NONE : 6);
                condition(x, names[i] + " at " + a, 1);
            }
        }
    }

    private static void invalidStores() {
        Check.sentence("a store does nothing.");
        String[] names = {"sb", "sh", "sw"};
        int[] widths = {1, 2, 4};
        for (int i = 0; i < names.length; i++) {
            for (int a : new int[] {252, 253, 254, 255, 256, 508, 509, 510, 511, 512, -1, MIN, MAX}) {
                boolean valid = a >= 256 && a <= 512 - widths[i];
                ShadeBench x = Check.ran(FILLING, 0, "li r2, -1", "li r1, " + a, names[i] + " r2, r1, 0", "halt");
                for (int b : new int[] {255, 256, 257, 258, 508, 509, 510, 511, 512}) {
                    boolean stored = valid && b >= a && b < a + widths[i];
                    Check.due(names[i] + " at " + a + ": memory(" + b + ", 0)", x.memory(b, 0), stored ? 255 : 0);
                }
                Check.due(names[i] + " at " + a + ": reports", x.state(4), valid ? 0 : 1);
                condition(x, names[i] + " at " + a, 1);
            }
        }
    }

    private static void endsOfMemory() {
        Check.sentence("not 0 .. 4095:");
        ShadeBench x = Check.ran(FILLING, 0, "li r7, 4092", "li r1, 0", "mark r1, 4, 2", "lw r2, r1, 0", "lbu r3, r1, 0", "lw r3, r7, 0",
                "lbu r3, r1, 4095", "lhu r3, r1, 4094", "halt");
        Check.due("the first and the last bytes: QUIET", x.state(9), 1);
        Check.register(x, "the first bytes", 2, 0, 0, 0);
        String[] lines = {"lw r2, r1, -1", "lw r2, r1, -2", "lh r2, r1, -1", "lb r2, r1, -1", "lw r2, r7, 1", "lh r2, r7, 3",
            "lb r2, r7, 4", "sw r1, r7, 1", "sh r1, r7, 3", "sb r1, r7, 4", "sw r7, r1, -1", "sh r7, r1, -1"};
        for (String line : lines) {
            ShadeBench y = Check.ran(FILLING, 0, "li r7, 4092", "li r1, 0", "mark r1, 4, 2", "sw r1, r7, 0", line, "halt");
            Check.report(y, line, 0, 6, 4, 0, 1);
            Check.due(line + ": one report", y.state(4), 1);
            Check.memory(y, line, 0, 0, 0, 0, 1);
            Check.memory(y, line, 4095, 0, 0, 0, 1);
        }
    }

    private static void loads() {
        Check.sentence("Else a load has the bytes' values and SHADES (lb, lh with their highest bit as sign, lbu, lhu with 0s above), the ORIGIN of the lowest byte that has a SHADE;");
        int[][] halves = {{0x7f, 0x7f, 0x7f, 0x7f, 0x7f}, {0x80, -128, 0x80, 0x80, 0x80}, {0x7fff, -1, 0xff, 0x7fff, 0x7fff},
            {0x8000, 0, 0, -32768, 0x8000}, {0xffff, -1, 0xff, -1, 0xffff}};
        String[] names = {"lb", "lbu", "lh", "lhu"};
        for (int[] one : halves) {
            for (int i = 0; i < names.length; i++) {
                ShadeBench x = Check.ran(FILLING, 0, "li r1, 300", "li r2, " + one[0], "sh r2, r1, 0", names[i] + " r3, r1, 0", "halt");
                Check.register(x, names[i] + " of " + one[0], 3, one[1 + i], 0, 0);
                // SHADES go as values do.
                ShadeBench y = Check.shaded(1, new int[] {0, one[0], 300, 0}, "sh r1, r2, 0\n" + names[i] + " r3, r2, 0");
                Check.register(y, names[i] + " of SHADE " + one[0], 3, 0, one[1 + i], one[1 + i] == 0 ? 0 : 2);
            }
        }
        int[] f = Check.filling(FILLING, 7);
        for (int k = 0; k < 4; k++) {
            ShadeBench x = Check.ran(FILLING, 0, "li r1, 300", "sb r5, r1, 3", "sb r4, r1, " + k, "lw r2, r1, 0", "halt");
            int bits = k == 3 ? (f[4] & 255) << 24 : f[5] << 24 | (f[4] & 255) << 8 * k;
            Check.register(x, "UNSET bytes 3 and " + k, 2, bits, 0xff000000 | 0xff << 8 * k, 5);
        }
    }

    private static void stores() {
        Check.sentence("a store gives bytes, SHADES and, of bytes with a SHADE, the ORIGIN (else 0).");
        ShadeBench x = Check.shaded(0, new int[] {0x81828384, 0x80000100, 300, 0}, "sw r1, r2, 0\nsh r1, r2, 8\nsb r1, r2, 12");
        int[] bytes = {0x84, 0x83, 0x82, 0x81, 0, 0, 0, 0, 0x84, 0x83, 0, 0, 0x84, 0};
        int[] shades = {0, 1, 0, 0x80, 0, 0, 0, 0, 0, 1, 0, 0, 0, 0};
        for (int i = 0; i < bytes.length; i++) {
            Check.memory(x, "stored", 300 + i, bytes[i], shades[i], shades[i] == 0 ? 0 : 2, 1);
        }
        ShadeBench y = Check.ran(FILLING, 0, "li r1, 300", "sw r0, r1, 0", "sb r1, r1, 1", "halt");
        Check.memory(y, "what had an ORIGIN", 301, 300 & 255, 0, 0, 1);
        Check.due("the ORIGIN of its neighbour", y.memory(302, 2), 1);
    }

    private static void push() {
        Check.sentence("push: r7 becomes less by 4, then sw at r7 (of r7 itself what it was ahead);");
        ShadeBench x = Check.ran(FILLING, 0, "push r7", "li r1, 0x44332211", "li r7, 3076", "push r1", "halt");
        Check.memory(x, "push r7", 4092, 0, 0, 0, 1);
        Check.memory(x, "push r7", 4093, 4096 >> 8, 0, 0, 1);
        Check.register(x, "the last that fits", 7, 3072, 0, 0);
        Check.memory(x, "the last that fits", 3072, 0x11, 0, 0, 1);
        Check.memory(x, "the last that fits", 3075, 0x44, 0, 0, 1);
        condition(x, "the last that fits", 1);
        ShadeBench y = Check.ran(FILLING, 0, "li r1, 0x44332211", "li r7, 4001", "push r1", "halt");
        Check.register(y, "at an odd place", 7, 3997, 0, 0);
        Check.memory(y, "at an odd place", 3997, 0x11, 0, 0, 1);
        Check.memory(y, "at an odd place", 4000, 0x44, 0, 0, 1);
        Check.due("QUIET", y.state(9), 1);
    }

    private static void pop() {
        Check.sentence("pop: lw at r7, then r7 more by 4 (pop r7: r7 becomes what was there alone).");
        ShadeBench x = Check.ran(FILLING, 0, "li r1, 5", "push r1", "pop r2", "halt");
        Check.register(x, "to the STACK's end", 7, 4096, 0, 0);
        Check.register(x, "to the STACK's end", 2, 5, 0, 0);
        condition(x, "to the STACK's end", 1);
        for (int place : new int[] {3072, 4092, 4095, 4096}) {
            ShadeBench y = Check.ran(FILLING, 0, "li r1, " + place, "push r1", "pop r7", "halt");
            Check.register(y, "pop r7 of " + place, 7, place, 0, 0);
            condition(y, "pop r7 of " + place, 1);
        }
        for (int place : new int[] {3071, 4097, 0, -1, MIN, MAX}) {
            ShadeBench y = Check.ran(FILLING, 0, "li r1, " + place, "push r1", "pop r7", "halt");
            Check.register(y, "pop r7 of " + place, 7, 4092, 0, 0);
            condition(y, "pop r7 of " + place, 3);
        }
        ShadeBench z = Check.ran(FILLING, 0, "push r1", "pop r7");
        condition(z, "pop r7 of a SHADE", 3);
        Check.register(z, "pop r7 of a SHADE", 7, 4092, 0, 0);
        for (int place = 4093; place <= 4096; place++) {
            ShadeBench y = Check.ran(FILLING, 0, "li r7, " + place, "pop r1", "halt");
            Check.register(y, "pop at " + place, 1, 0, 0, 0);
            Check.register(y, "pop at " + place, 7, place, 0, 0);
            Check.report(y, "pop at " + place, 0, 6, 1, 0, 1);
            condition(y, "pop at " + place, 3);
        }
        ShadeBench w = Check.ran(FILLING, 0, "li r1, 7", "push r1", "mark r7, 1, 0", "pop r1", "halt");
        Check.register(w, "pop of what is not OPEN", 1, 0, 0, 0);
        Check.register(w, "pop of what is not OPEN", 7, 4096, 0, 0);
        Check.report(w, "pop of what is not OPEN", 0, 6, 3, 0, 1);
    }

    private static void stackPointer() {
        Check.sentence("r7 changed by these, by add, sub, li, mv and all others alike: bytes of the STACK below it are CLOSED, at and above it are OPEN;");
        String[] ways = {"li r7, 4000", "mv r7, r1", "add r7, r1, 0", "sub r7, r1, 0", "or r7, r1, 0", "xor r7, r1, 0", "and r7, r1, -1",
            "mul r7, r1, 1", "div r7, r1, 1", "rem r7, r1, 5000", "shl r7, r1, 0", "sxh r7, r1", "not r7, r2", "neg r7, r3",
            "lw r7, r4, 0", "lhu r7, r4, 0", "lh r7, r4, 0", "in r7"};
        for (String way : ways) {
            ShadeBench x = Check.bench(FILLING, 0, "li r1, 4000", "li r2, -4001", "li r3, -4000", "li r4, 256", "sw r1, r4, 0", way, "halt");
            x.input(4000);
            x.run(20);
            Check.register(x, way, 7, 4000, 0, 0);
            Check.due(way + ": below it", x.memory(3999, 3), 0);
            Check.due(way + ": at it", x.memory(4000, 3), 1);
            Check.due(way + ": at it, of ORIGIN", x.memory(4000, 2), 517);
            Check.due(way + ": the last", x.memory(4095, 3), 1);
            condition(x, way, 1);
        }
        ShadeBench y = Check.bench(FILLING, 0, "li r7, 3072", "li r7, 4096", "halt");
        y.run(1);
        Check.due("the whole STACK: the first", y.memory(3072, 3), 1);
        Check.due("the whole STACK: the last", y.memory(4095, 3), 1);
        Check.due("ahead of it", y.memory(3071, 3), 0);
        y.run(1);
        Check.due("nothing: the first", y.memory(3072, 3), 0);
        Check.due("nothing: the last", y.memory(4095, 3), 0);
    }

    private static void stackOpens() {
        Check.sentence("those that become OPEN are UNSET, of ORIGIN 512 and the instruction's number");
        int[] f = Check.filling(FILLING, 40);
        ShadeBench x = Check.ran(FILLING, 0, "li r7, 4095", "sub r7, r7, 3", "add r7, r7, 1", "sub r7, r7, 2", "li r7, 4091", "halt");
        Check.memory(x, "opened by the first", 4095, f[7] & 255, 255, 512, 1);
        Check.memory(x, "opened by the second", 4094, f[10] & 255, 255, 513, 1);
        Check.memory(x, "opened by the second", 4093, f[9] & 255, 255, 513, 1);
        Check.memory(x, "opened by the fourth again", 4092, f[12] & 255, 255, 515, 1);
        Check.memory(x, "opened by the fourth", 4091, f[11] & 255, 255, 515, 1);
        Check.memory(x, "never opened", 4090, 0, 255, 0, 0);
        ShadeBench y = Check.ran(FILLING, 0, ("jmp l\n" + "ret\n".repeat(198) + "l: li r7, 4095").split("\n"));
        Check.memory(y, "by the 200th instruction", 4095, f[7] & 255, 255, 711, 1);
        // What a mark did in the STACK is undone as well, at its first and at its last byte.
        ShadeBench z = Check.ran(FILLING, 0, "li r1, 3072", "mark r1, 1, 2", "li r7, 4094", "li r1, 4095", "mark r1, 1, 0", "li r7, 4093",
                "halt");
        Check.due("CLOSED below r7", z.memory(3072, 3), 0);
        Check.due("OPEN above r7", z.memory(4095, 3), 1);
        Check.memory(z, "what was CLOSED", 4095, f[10] & 255, 255, 517, 1);
        Check.memory(z, "what was OPEN", 4094, f[7] & 255, 255, 514, 1);
    }

    private static void stackTraps() {
        Check.sentence("a change to what has a SHADE, or is not 3072 .. 4096, is TRAP 2, r7 stays; all else of the instruction is done ahead, of push nothing).");
        for (String way : new String[] {"li r7, 3071", "li r7, 4097", "li r7, 0", "li r7, -1", "li r7, 0x80000000", "li r7, 0x7fffffff",
            "sub r7, r7, 1025", "add r7, r7, 1", "mv r7, r0", "and r7, r0, 0", "new r7, 513", "look r7, r7, 0"}) {
            ShadeBench x = Check.ran(FILLING, 0, way, "halt");
            condition(x, way, 3);
            Check.register(x, way, 7, 4096, 0, 0);
            Check.due(way + ": state(0)", x.state(0), 0);
            Check.due(way + ": STEPS", x.state(2), 1);
            Check.due(way + ": no byte is OPEN", x.memory(4095, 3), 0);
        }
        ShadeBench shade = Check.shaded(1, new int[] {4000, 1, 0, 0}, "mv r7, r1");
        condition(shade, "4000 with a SHADE", 3);
        for (int r7 : new int[] {3072, 3073, 3075}) {
            ShadeBench x = Check.ran(FILLING, 0, "li r7, " + r7, "li r1, -1", "push r1", "halt");
            condition(x, "push at " + r7, 3);
            Check.register(x, "push at " + r7, 7, r7, 0, 0);
            Check.due("push at " + r7 + ": nothing is stored", x.memory(3075, 1), 255);
            Check.due("push at " + r7 + ": reports", x.state(4), 0);
            Check.due("push at " + r7 + ": below it", x.memory(r7 - 1, 3), 0);
        }
        ShadeBench made = Check.ran(FILLING, 0, "new r7, 8");
        Check.due("new r7: the block is made", made.block(1, 2), 2);
        ShadeBench grown = Check.ran(FILLING, 0, "new r1, 8", "grow r7, r1, 8");
        Check.due("grow r7: the old one is freed", grown.block(1, 2), 1);
        Check.due("grow r7: the new one is made", grown.block(2, 2), 2);
        ShadeBench read = Check.bench(FILLING, 0, "in r7");
        read.input(5);
        read.run(1);
        condition(read, "in r7", 3);
        ShadeBench loaded = Check.ran(FILLING, 0, "lw r7, r1, 0");
        Check.due("lw r7: the reports", loaded.state(4), 2);
        ShadeBench divided = Check.ran(FILLING, 0, "or r1, r1, 1", "div r7, r7, r1");
        Check.due("div r7: the report", divided.report(0, 0), 4);
        condition(divided, "div r7", 3);
    }

    private static String[] chain(int depth) {
        String[] lines = new String[depth + 1];
        for (int i = 0; i < depth; i++) {
            lines[i] = "a" + i + ": call a" + (i + 1);
        }
        lines[depth] = "a" + depth + ": ret";
        return lines;
    }

    private static void calls() {
        Check.sentence("call: the place behind it is kept, at most 32 of them: one more TRAP 3;");
        ShadeBench x = Check.bench(FILLING, 0, chain(32));
        x.run(32);
        condition(x, "32 are kept", 0);
        Check.due("32 are kept: state(0)", x.state(0), 32);
        x.run(1);
        Check.due("the place behind the 32nd", x.state(0), 32);
        ShadeBench y = Check.ran(FILLING, 0, chain(33));
        condition(y, "33", 4);
        Check.due("33: state(0)", y.state(0), 32);
        Check.due("33: STEPS", y.state(2), 33);
        Check.due("33: THE MARK", y.state(8), (7 * 31 + 4) * 31 + 3);
        // Places that were gone to are kept no more.
        ShadeBench z = Check.ran(FILLING, 0, "li r1, 40", "a: call f", "sub r1, r1, 1", "bne r1, 0, a", "halt", "f: ret");
        condition(z, "40, one after the other", 1);
        Check.due("40, one after the other: state(0)", z.state(0), 4);
    }

    private static void returns() {
        Check.sentence("ret: to the latest one kept; without one as halt.");
        ShadeBench x = Check.bench(FILLING, 0, "call a", "ret", "a: call b", "ret", "b: ret");
        int[] next = {2, 4, 3, 1, 1};
        for (int i = 0; i < next.length; i++) {
            x.run(1);
            Check.due("STEP " + i, x.state(0), next[i]);
        }
        condition(x, "without one", 1);
        Check.due("without one: STEPS", x.state(2), 5);
        Check.due("without one: run", x.run(1), 0);
        ShadeBench y = Check.ran(FILLING, 0, "ret");
        condition(y, "the first", 1);
        Check.due("the first: state(0)", y.state(0), 0);
    }

    private static void counts() {
        Check.sentence("X bytes (0 .. 256, else TRAP 4, behind the reports of ADDRESS and SIZE, ahead of INVALID; of mark and look likewise),");
        for (String name : new String[] {"copy r1, r2, ", "fill r1, r2, ", "mark r1, ", "look r3, r1, "}) {
            String more = name.startsWith("mark") ? ", 2" : "";
            for (int count : new int[] {0, 1, 255, 256}) {
                ShadeBench x = Check.ran(FILLING, 0, "li r1, 256", "li r2, 256", name + count + more, "halt");
                condition(x, name + count, 1);
                Check.due(name + count + ": QUIET", x.state(9), 1);
            }
            for (int count : new int[] {-1, 257, MIN, MAX}) {
                ShadeBench x = Check.ran(FILLING, 0, "li r1, 256", "li r2, 256", name + count + more, "halt");
                condition(x, name + count, 5);
                Check.due(name + count + ": state(0)", x.state(0), 2);
                Check.due(name + count + ": no INVALID", x.state(4), 0);
                ShadeBench y = Check.ran(FILLING, 0, "li r1, 0", "li r2, 0", "li r3, " + count, name + "r3" + more, "halt");
                condition(y, name + "r3 " + count, 5);
                Check.due(name + "r3 " + count + ": no INVALID", y.state(4), 0);
            }
            ShadeBench z = Check.shaded(1, new int[] {0, 1, 257, 1}, name + "r2" + more);
            condition(z, name + "257 with a SHADE", 5);
            Check.due(name + ": ADDRESS", z.report(0, 0), 2);
            Check.due(name + ": SIZE", z.report(z.state(3) - 1, 0), 5);
        }
        ShadeBench none = Check.ran(FILLING, 0, "li r1, -1", "li r2, 4096", "copy r1, r2, 0", "fill r1, r2, 0", "copy r2, r1, 0", "halt");
        Check.due("no bytes at no place: QUIET", none.state(9), 1);
        condition(none, "no bytes at no place", 1);
    }

    private static void copiesAtOnce() {
        Check.sentence("from S on to D on, as if all were read first;");
        for (int shift : new int[] {-8, -7, -3, -1, 0, 1, 3, 7, 8}) {
            ShadeBench x = Check.ran(FILLING, 0, "li r1, 300", "li r2, 0x04030201", "sw r2, r1, 0", "sw r6, r1, 4", "li r2, " + (300 + shift),
                    "copy r2, r1, 8", "halt");
            int f = Check.filling(FILLING, 7)[6];
            int[] due = {1, 2, 3, 4, f & 255, f >>> 8 & 255, f >>> 16 & 255, f >>> 24};
            for (int i = 0; i < 8; i++) {
                Check.memory(x, "copy by " + shift, 300 + shift + i, due[i], i < 4 ? 0 : 255, i < 4 ? 0 : 7, 1);
            }
        }
        ShadeBench whole = Check.ran(FILLING, 0, "li r1, 256", "li r2, 77", "sb r2, r1, 255", "li r7, 3840", "copy r7, r1, 256", "halt");
        Check.memory(whole, "256 bytes: the first", 3840, 0, 0, 0, 1);
        Check.memory(whole, "256 bytes: the last", 4095, 77, 0, 0, 1);
        ShadeBench one = Check.ran(FILLING, 0, "li r1, 256", "li r2, 77", "sb r2, r1, 0", "li r3, 511", "copy r3, r1, 1", "halt");
        Check.memory(one, "one byte", 511, 77, 0, 0, 1);
        Check.memory(one, "one byte: ahead of it", 510, 0, 0, 0, 1);
    }

    private static void fills() {
        Check.sentence("fill D, V, X: the lowest byte of V with its SHADE;");
        ShadeBench x = Check.shaded(0, new int[] {0x12345678, 0xff80, 300, 0}, "fill r2, r1, 2\nli r2, 511\nfill r2, r1, 1");
        Check.memory(x, "ahead of it", 299, 0, 0, 0, 1);
        Check.memory(x, "the first", 300, 0x78, 0x80, 2, 1);
        Check.memory(x, "the last", 301, 0x78, 0x80, 2, 1);
        Check.memory(x, "behind it", 302, 0, 0, 0, 1);
        Check.memory(x, "one alone", 511, 0x78, 0x80, 2, 1);
        Check.due("V is not reported", x.state(9), 1);
        ShadeBench y = Check.shaded(0, new int[] {0x12345678, 0xffffff00, 256, 0}, "fill r2, r1, 256");
        Check.memory(y, "256: the first", 256, 0x78, 0, 0, 1);
        Check.memory(y, "256: the last", 511, 0x78, 0, 0, 1);
        ShadeBench z = Check.ran(FILLING, 0, "li r1, 257", "li r2, 5", "fill r1, r2, 256", "halt");
        Check.report(z, "one too far", 0, 6, 2, 0, 1);
        Check.memory(z, "one too far: nothing is done", 257, 0, 0, 0, 1);
        Check.memory(z, "one too far: nothing is done", 511, 0, 0, 0, 1);
    }

    private static void reportsAhead() {
        Check.sentence("ADDRESS of D, then S (of copy), SIZE of X are reported if they have SHADES;");
        ShadeBench x = Check.ran(FILLING, 0, "and r2, r2, 0", "xor r3, r3, r3", "copy r0, r1, r3", "fill r4, r5, r3", "halt");
        Check.report(x, "copy: D", 0, 2, 2, 1, 1);
        Check.report(x, "copy: S", 1, 2, 2, 2, 1);
        Check.report(x, "copy: X", 2, 5, 2, 4, 1);
        Check.report(x, "fill: D", 3, 2, 3, 5, 1);
        Check.report(x, "fill: X", 4, 5, 3, 4, 1);
        Check.due("all of them", x.state(4), 5);
        ShadeBench y = Check.ran(FILLING, 0, "copy r6, r2, 0", "copy r2, r6, 0", "copy r7, r2, 0", "copy r2, r7, 0", "copy r7, r7, 0",
                "fill r7, r6, 0", "halt");
        int[][] due = {{0, 7}, {0, 3}, {1, 3}, {1, 7}, {2, 3}, {3, 3}};
        for (int k = 0; k < due.length; k++) {
            Check.report(y, "each alone", k, 2, due[k][0], due[k][1], 1);
        }
        Check.due("all of these", y.state(4), 6);
    }

    private static void invalidOnce() {
        Check.sentence("then INVALID, once, if any byte of S, then of D, is not OPEN: nothing is done then.");
        String[] blocks = {"new r1, 8", "new r2, 8", "li r3, 5", "fill r1, r3, 8", "fill r2, r3, 7"};
        int[][] due = {{8, 8, 0}, {9, 8, 1}, {8, 9, 1}, {9, 9, 1}};
        for (int[] one : due) {
            String s = "add r1, r1, " + (one[0] - 8);
            String d = "add r2, r2, " + (one[1] - 8);
            ShadeBench x = Check.ran(FILLING, 0, blocks[0], blocks[1], blocks[2], blocks[3], blocks[4], s, d, "copy r2, r1, 8", "halt");
            String name = "copy of 8 bytes from " + (one[0] - 8) + " to " + (one[1] - 8);
            Check.due(name + ": reports", x.state(4), one[2]);
            if (one[2] == 1) {
                Check.report(x, name, 0, 6, 7, one[0] == 9 ? 1 : 2, 1);
            }
            Check.due(name + ": the last byte of D", x.memory(1063, 1), one[2] == 0 ? 0 : 255);
            condition(x, name, 1);
        }
        ShadeBench hole = Check.ran(FILLING, 0, "li r1, 300", "mark r1, 1, 0", "li r1, 256", "li r2, 7", "fill r1, r2, 256", "li r3, 400",
                "copy r3, r1, 44", "copy r3, r1, 45", "fill r1, r2, 44", "halt");
        Check.report(hole, "fill over a hole", 0, 6, 4, 0, 1);
        Check.report(hole, "copy over a hole", 1, 6, 7, 0, 1);
        Check.due("up to the hole", hole.state(4), 2);
        Check.memory(hole, "ahead of the hole", 299, 7, 0, 0, 1);
        Check.memory(hole, "behind the hole", 301, 0, 0, 0, 1);
        for (String ends : new String[] {"-1", "4095", "0x7fffffff", "-2147483648"}) {
            ShadeBench x = Check.ran(FILLING, 0, "li r7, 4090", "li r1, 0", "mark r1, 4, 2", "li r1, " + ends, "li r2, 256", "copy r1, r2, 2",
                    "copy r2, r1, 2", "fill r1, r2, 2", "halt");
            Check.due("beyond memory at " + ends, x.state(4), 3);
            Check.memory(x, "beyond memory at " + ends, 0, 0, 0, 0, 1);
            Check.due("beyond memory at " + ends, x.memory(4095, 1), 255);
        }
    }

    private static void marks() {
        Check.sentence("mark A, X, N: N 0: X bytes from A on are CLOSED, 1: they are UNSET (of ORIGIN 256 and the instruction's number, if it is below 256; else 511), 2: they become OPEN and set (bits stay);");
        int[] f = Check.filling(FILLING, 600);
        for (int a : new int[] {0, 256, 511, 1032, 3071, 3840}) {
            int count = a == 511 || a == 3071 ? 2 : 256;
            ShadeBench x = Check.bench(FILLING, 0, "li r1, " + a, "mark r1, " + count + ", 1", "mark r1, " + count + ", 2",
                    "mark r1, " + count + ", 0", "halt");
            x.run(2);
            Check.memory(x, "1: the first", a, f[7] & 255, 255, 257, 1);
            Check.memory(x, "1: the last", a + count - 1, f[7 + count - 1] & 255, 255, 257, 1);
            x.run(1);
            Check.memory(x, "2: the first", a, f[7] & 255, 0, 0, 1);
            Check.memory(x, "2: the last", a + count - 1, f[7 + count - 1] & 255, 0, 0, 1);
            x.run(1);
            Check.memory(x, "0: the first", a, f[7] & 255, 0, 0, 0);
            Check.memory(x, "0: the last", a + count - 1, f[7 + count - 1] & 255, 0, 0, 0);
            if (a + count < 4096) {
                Check.due("behind it", x.memory(a + count, 3), a + count >= 256 && a + count < 512 ? 1 : 0);
            }
        }
        for (int how = 0; how < 3; how++) {
            ShadeBench none = Check.ran(FILLING, 0, "li r1, 300", "mark r1, 0, " + how, "halt");
            Check.memory(none, "no bytes", 300, 0, 0, 0, 1);
            ShadeBench one = Check.ran(FILLING, 0, "li r1, 300", "mark r1, 1, " + how, "halt");
            Check.memory(one, "ahead of one byte", 299, 0, 0, 0, 1);
            Check.memory(one, "behind one byte", 301, 0, 0, 0, 1);
            Check.memory(one, "one byte", 300, how == 1 ? f[7] & 255 : 0, how == 1 ? 255 : 0, how == 1 ? 257 : 0, how == 0 ? 0 : 1);
        }
        ShadeBench last = Check.ran(FILLING, 0, ("jmp l\n" + "ret\n".repeat(198) + "l: mark r7, 0, 1").split("\n"));
        condition(last, "the 200th instruction", 1);
        ShadeBench late = Check.ran(FILLING, 0, ("li r1, 300\njmp l\n" + "ret\n".repeat(197) + "l: mark r1, 1, 1").split("\n"));
        Check.memory(late, "the 200th instruction", 300, f[7] & 255, 255, 455, 1);
    }

    private static void marksRefused() {
        Check.sentence("another N, X not 0 .. 256, or not all in 0 .. 4095: TRAP 4.");
        int[][] refused = {{300, 1, 3}, {300, 1, -1}, {300, 0, 3}, {300, 1, MIN}, {300, 1, MAX}, {300, 257, 1}, {300, -1, 1}, {-1, 1, 1},
            {-1, 2, 2}, {4096, 1, 0}, {4095, 2, 1}, {3841, 256, 2}, {MAX, 256, 1}, {MIN, 256, 1}, {-256, 256, 1}, {-255, 256, 1}};
        for (int[] one : refused) {
            String line = "mark r1, " + one[1] + ", " + one[2];
            ShadeBench x = Check.ran(FILLING, 0, "li r1, " + one[0], line, "halt");
            condition(x, line + " at " + one[0], 5);
            Check.memory(x, line + " at " + one[0], 0, 0, 255, 0, 0);
            Check.memory(x, line + " at " + one[0], 300, 0, 0, 0, 1);
            Check.memory(x, line + " at " + one[0], 4095, 0, 255, 0, 0);
            Check.due(line + " at " + one[0] + ": QUIET", x.state(9), 1);
        }
        int[][] taken = {{0, 256, 0}, {3840, 256, 1}, {4095, 1, 2}, {0, 1, 1}, {0, 0, 1}};
        for (int[] one : taken) {
            String line = "mark r1, " + one[1] + ", " + one[2];
            ShadeBench x = Check.ran(FILLING, 0, "li r1, " + one[0], line, "halt");
            condition(x, line + " at " + one[0], 1);
        }
    }

    private static void looks() {
        Check.sentence("look R, A, X: R is the address of the first of X bytes from A on that is not OPEN, or has a SHADE; -1 without one (same TRAP); set.");
        for (int shade : new int[] {1, 0x80, 0xff}) {
            ShadeBench x = Check.shaded(0, new int[] {0, shade, 310, 0},
                    "sb r1, r2, 0\nli r2, 300\nlook r3, r2, 10\nlook r4, r2, 11\nlook r5, r2, 200\nli r2, 310\nlook r6, r2, 1\nlook r0, r2, 0");
            Check.register(x, "one byte ahead of it", 3, -1, 0, 0);
            Check.register(x, "up to it", 4, 310, 0, 0);
            Check.register(x, "over it", 5, 310, 0, 0);
            Check.register(x, "at it", 6, 310, 0, 0);
            Check.register(x, "at it, of no bytes", 0, -1, 0, 0);
        }
        ShadeBench y = Check.ran(FILLING, 0, "li r1, 256", "look r2, r1, 256", "li r1, 255", "look r3, r1, 256", "li r1, 257",
                "look r4, r1, 255", "look r5, r1, 256", "li r1, 0", "mark r1, 1, 2", "look r6, r1, 1", "look r0, r1, 2", "halt");
        int[] due = {1, 0, -1, 255, -1, 512, -1};
        for (int r : new int[] {0, 2, 3, 4, 5, 6}) {
            Check.register(y, "ends of what is OPEN", r, due[r], 0, 0);
        }
        ShadeBench z = Check.ran(FILLING, 0, "li r1, 4095", "look r2, r1, 1", "mark r1, 1, 2", "look r3, r1, 1", "halt");
        Check.register(z, "the last byte", 2, 4095, 0, 0);
        Check.register(z, "the last byte, set", 3, -1, 0, 0);
    }

    private static void looksRefused() {
        Check.sentence("-1 without one (same TRAP); set.");
        int[][] refused = {{300, 257}, {300, -1}, {-1, 1}, {-1, 2}, {4096, 1}, {4095, 2}, {3841, 256}, {MAX, 256}, {MIN, 1}, {-255, 256}};
        for (int[] one : refused) {
            ShadeBench x = Check.ran(FILLING, 0, "li r1, " + one[0], "look r2, r1, " + one[1], "halt");
            condition(x, "look at " + one[0] + " of " + one[1], 5);
            Check.register(x, "look at " + one[0] + " of " + one[1], 2, Check.filling(FILLING, 3)[2], -1, 3);
        }
        int[][] taken = {{0, 256}, {3840, 256}, {4095, 1}, {0, 0}, {300, 0}};
        for (int[] one : taken) {
            ShadeBench x = Check.ran(FILLING, 0, "li r1, " + one[0], "look r2, r1, " + one[1], "halt");
            condition(x, "look at " + one[0] + " of " + one[1], 1);
            Check.register(x, "look at " + one[0] + " of " + one[1], 2, one[1] == 0 ? -1 : one[0], 0, 0);
        }
    }

    private static void quietOnes() {
        Check.sentence("Neither reports anything but ADDRESS and SIZE.");
        ShadeBench x = Check.ran(FILLING, 0, "li r1, 600", "look r2, r1, 8", "mark r1, 8, 0", "mark r1, 8, 1", "look r2, r1, 8", "mark r1, 8, 2",
                "halt");
        Check.due("of what is set: QUIET", x.state(9), 1);
        ShadeBench y = Check.ran(FILLING, 0, "and r1, r1, 1", "and r2, r2, 1", "mark r1, r2, 0", "look r3, r1, r2", "mark r1, 1, 0", "look r3, r7, r2",
                "halt");
        int[][] due = {{2, 2, 2}, {5, 2, 3}, {2, 3, 2}, {5, 3, 3}, {2, 4, 2}, {5, 5, 3}};
        for (int k = 0; k < due.length; k++) {
            Check.report(y, "with SHADES", k, due[k][0], due[k][1], due[k][2], 1);
        }
        Check.due("all of them", y.state(4), 6);
    }

    private static void traps() {
        Check.sentence("HALT ends it, and so does a TRAP (of what is told the first): 1 divisor 0, 2 r7, 3 calls, 4 a count.");
        String[] lines = {"div r7, r1, 0", "rem r7, r1, 0", "li r7, 0", "look r7, r1, 257", "look r7, r1, -1", "mark r1, 257, 5",
            "copy r7, r7, 257", "halt"};
        int[] due = {2, 2, 3, 5, 5, 5, 5, 1};
        for (int i = 0; i < lines.length; i++) {
            ShadeBench x = Check.ran(FILLING, 0, "li r1, 256", lines[i], "li r1, 1");
            condition(x, lines[i], due[i]);
            Check.due(lines[i] + ": state(0)", x.state(0), 1);
            Check.due(lines[i] + ": STEPS", x.state(2), 2);
            Check.due(lines[i] + ": run(5)", x.run(5), 0);
            Check.register(x, lines[i], 1, 256, 0, 0);
            Check.register(x, lines[i], 7, 4096, 0, 0);
            Check.due(lines[i] + ": THE MARK", x.state(8), due[i] == 1 ? 7 : (7 * 31 + 4) * 31 + due[i] - 1);
        }
    }

    private static void steps() {
        Check.sentence("Each instruction is a STEP.");
        ShadeBench x = Check.bench(FILLING, 0, "call a", "li r1, 256", "fill r1, r1, 256", "copy r1, r1, 256", "div r1, r1, 0", "a: ret");
        for (int n = 1; n <= 6; n++) {
            Check.due("run(1)", x.run(1), 1);
            Check.due("STEPS", x.state(2), n);
        }
        Check.due("no more", x.run(1), 0);
        Check.due("no more STEPS", x.state(2), 6);
    }
}
