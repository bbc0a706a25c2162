/** Promise 12: memory, and with it loads, stores, the stack, copy, fill, mark and look. */
public final class MemoryTest {
    private static final int FILLING = 99;

    public static void main(String[] args) {
        wrongInputs();
        storesAndLoads();
        loadsOfShades();
        storesOfShades();
        invalid();
        pushAndPop();
        pushAndPopAtTheEdges();
        stackOpensAndCloses();
        stackAndMarks();
        copies();
        fills();
        marks();
        looks();
        Check.close();
    }

    private static void wrongInputs() {
        ShadeBench x = Check.bench(FILLING, 0, "halt");
        Check.due("memory(-1, 0)", x.memory(-1, 0), Check.NONE);
        Check.due("memory(4096, 0)", x.memory(4096, 0), Check.NONE);
        Check.due("memory(4095, 0)", x.memory(4095, 0), 0);
        Check.due("memory(0, 4)", x.memory(0, 4), Check.NONE);
        Check.due("memory(0, -1)", x.memory(0, -1), Check.NONE);
        Check.due("memory(-2147483648, 0)", x.memory(Integer.MIN_VALUE, 0), Check.NONE);
    }

    private static void storesAndLoads() {
        ShadeBench x = Check.ran(0, 0, "li r1, 0x8192a3b4", "li r2, 256", "sw r1, r2, 1", "sh r1, r2, 8", "sb r1, r2, 12",
                "lw r3, r2, 1", "lb r4, r2, 8", "lbu r5, r2, 8", "lh r6, r2, 8", "lhu r0, r2, 8", "halt");
        int[] word = {0, 0xb4, 0xa3, 0x92, 0x81, 0, 0, 0, 0xb4, 0xa3, 0, 0, 0xb4, 0};
        for (int i = 0; i < word.length; i++) {
            Check.memory(x, "stored", 256 + i, word[i], 0, 0, 1);
        }
        Check.register(x, "lw", 3, 0x8192a3b4, 0, 0);
        Check.register(x, "lb", 4, 0xffffffb4, 0, 0);
        Check.register(x, "lbu", 5, 0xb4, 0, 0);
        Check.register(x, "lh", 6, 0xffffa3b4, 0, 0);
        Check.register(x, "lhu", 0, 0xa3b4, 0, 0);
        Check.due("QUIET", x.state(9), 1);
        ShadeBench y = Check.ran(0, 0, "li r1, -1", "li r2, 5", "sb r2, r1, 301", "li r1, 0x80000000", "lbu r3, r1, 0x8000012c");
        Check.register(y, "the sum wraps", 3, 5, 0, 0);
    }

    private static void loadsOfShades() {
        // A block's bytes are the numbers behind those of the registers.
        int[] f = Check.filling(FILLING, 20);
        ShadeBench x = Check.ran(FILLING, 0, "new r1, 8", "li r2, 0x80", "sb r2, r1, 0", "lw r3, r1, 0", "lb r4, r1, 0",
                "lb r5, r1, 1", "lbu r6, r1, 1", "lh r0, r1, 0", "sb r2, r1, 1", "lh r2, r1, 0", "halt");
        int high = (f[8] & 255) << 8 | (f[9] & 255) << 16 | (f[10] & 255) << 24;
        Check.register(x, "lw", 3, 0x80 | high, 0xffffff00, 9);
        Check.register(x, "lb of a set byte", 4, -128, 0, 0);
        Check.register(x, "lb of an UNSET byte", 5, (byte) f[8], -1, 9);
        Check.register(x, "lbu of an UNSET byte", 6, f[8] & 255, 255, 9);
        Check.register(x, "lh", 0, (short) (0x80 | (f[8] & 255) << 8), 0xffffff00, 9);
        Check.register(x, "lh of set bytes", 2, 0xffff8080, 0, 0);
        ShadeBench y = Check.ran(FILLING, 0, "li r3, 300", "sb r4, r3, 1", "sb r2, r3, 2", "lw r5, r3, 0", "lhu r6, r3, 2",
                "and r0, r0, 0x80", "sb r0, r3, 0", "lb r1, r3, 0");
        Check.register(y, "the ORIGIN of the lowest", 5, (f[4] & 255) << 8 | (f[2] & 255) << 16, 0x00ffff00, 5);
        Check.register(y, "the ORIGIN of the other", 6, f[2] & 255, 255, 3);
        Check.register(y, "the SHADE of the sign", 1, (byte) (f[0] & 0x80), 0xffffff80, 1);
    }

    private static void storesOfShades() {
        int[] f = Check.filling(FILLING, 7);
        ShadeBench x = Check.ran(FILLING, 0, "li r1, 400", "and r2, r2, 0xff0f00", "sw r2, r1, 0", "sw r3, r1, 4",
                "sh r2, r1, 5");
        Check.memory(x, "sw", 400, 0, 0, 0, 1);
        Check.memory(x, "sw", 401, f[2] >>> 8 & 15, 15, 3, 1);
        Check.memory(x, "sw", 402, f[2] >>> 16 & 255, 255, 3, 1);
        Check.memory(x, "sw", 403, 0, 0, 0, 1);
        Check.memory(x, "sw", 404, f[3] & 255, 255, 4, 1);
        Check.memory(x, "sh", 405, 0, 0, 0, 1);
        Check.memory(x, "sh", 406, f[2] >>> 8 & 15, 15, 3, 1);
        Check.memory(x, "sw", 407, f[3] >>> 24 & 255, 255, 4, 1);
    }

    private static void invalid() {
        String[] places = {"255", "509", "-1", "-4", "4096", "4094", "0x7fffffff", "512"};
        for (String place : places) {
            ShadeBench x = Check.ran(FILLING, 0, "li r1, " + place, "lw r2, r1, 0", "sw r2, r1, 0", "halt");
            Check.register(x, "lw at " + place, 2, 0, 0, 0);
            Check.report(x, "lw at " + place, 0, 6, 1, 0, 1);
            Check.report(x, "sw at " + place, 1, 6, 2, 0, 1);
            Check.due("reports at " + place, x.state(3), 2);
            Check.due("halted at " + place, x.state(1), 1);
        }
        ShadeBench y = Check.ran(FILLING, 0, "li r1, 509", "li r2, -1", "sw r2, r1, 0", "sw r2, r1, -1", "halt");
        Check.memory(y, "nothing is stored", 511, 255, 0, 0, 1);
        Check.memory(y, "nothing is stored", 508, 255, 0, 0, 1);
        Check.due("one report", y.state(4), 1);
        ShadeBench z = Check.ran(FILLING, 0, "sw r1, r2, 0", "lw r1, r2, 0", "halt");
        Check.report(z, "ADDRESS first", 0, 2, 0, 3, 1);
        Check.report(z, "then INVALID", 1, 6, 0, 0, 1);
        Check.report(z, "ADDRESS of lw", 2, 2, 1, 3, 1);
        ShadeBench w = Check.ran(FILLING, 0, "li r3, 256", "and r2, r2, 3", "add r2, r2, r3", "and r2, r2, 0x103",
                "lbu r1, r2, 0", "halt");
        Check.report(w, "ADDRESS alone", 0, 2, 4, 3, 1);
        Check.due("no INVALID", w.state(3), 1);
    }

    private static void pushAndPop() {
        int[] f = Check.filling(FILLING, 20);
        ShadeBench x = Check.bench(FILLING, 0, "li r1, 0x01020304", "push r1", "push r2", "push r7", "pop r4", "pop r5", "pop r6",
                "push r3", "halt");
        x.run(4);
        Check.register(x, "r7", 7, 4084, 0, 0);
        Check.memory(x, "push r1", 4092, 4, 0, 0, 1);
        Check.memory(x, "push r1", 4095, 1, 0, 0, 1);
        Check.memory(x, "push r2", 4088, f[2] & 255, 255, 3, 1);
        Check.memory(x, "push r7", 4084, 4088 & 255, 0, 0, 1);
        Check.memory(x, "push r7", 4085, 4088 >> 8, 0, 0, 1);
        Check.memory(x, "below", 4083, 0, 255, 0, 0);
        x.run(1);
        Check.register(x, "pop r4", 4, 4088, 0, 0);
        Check.memory(x, "popped", 4084, 4088 & 255, 0, 0, 0);
        x.run(2);
        Check.register(x, "pop r5", 5, f[2], -1, 3);
        Check.register(x, "pop r6", 6, 0x01020304, 0, 0);
        Check.register(x, "r7 again", 7, 4096, 0, 0);
        Check.due("QUIET", x.state(9), 1);
    }

    private static void pushAndPopAtTheEdges() {
        ShadeBench x = Check.ran(FILLING, 0, "li r7, 3074", "li r1, 5", "push r1");
        Check.due("push below the stack", x.state(1), 3);
        Check.register(x, "push below the stack", 7, 3074, 0, 0);
        Check.memory(x, "push below the stack", 3073, 0, 255, 0, 0);
        ShadeBench y = Check.ran(FILLING, 0, "li r7, 3076", "li r1, 5", "push r1", "pop r7");
        Check.due("pop r7 of what is no place", y.state(1), 3);
        Check.register(y, "pop r7 of what is no place", 7, 3072, 0, 0);
        ShadeBench z = Check.ran(FILLING, 0, "li r1, 4000", "push r1", "pop r7", "halt");
        Check.register(z, "pop r7", 7, 4000, 0, 0);
        Check.due("pop r7 goes on", z.state(1), 1);
        ShadeBench w = Check.ran(FILLING, 0, "li r1, 5", "li r7, 4094", "pop r1");
        Check.register(w, "pop at the end", 1, 0, 0, 0);
        Check.report(w, "pop at the end", 0, 6, 2, 0, 1);
        Check.due("pop at the end", w.state(1), 3);
        Check.register(w, "pop at the end", 7, 4094, 0, 0);
    }

    private static void stackOpensAndCloses() {
        int[] f = Check.filling(FILLING, 40);
        ShadeBench x = Check.bench(FILLING, 0, "li r7, 4090", "li r1, 7", "sb r1, r7, 1", "add r7, r7, 3", "sub r7, r7, 4",
                "li r7, 4096", "li r7, 3072", "halt");
        x.run(1);
        for (int i = 0; i < 6; i++) {
            Check.memory(x, "opened", 4090 + i, f[7 + i] & 255, 255, 512, 1);
        }
        x.run(3);
        Check.memory(x, "closed", 4091, 7, 0, 0, 0);
        Check.memory(x, "closed", 4092, f[9] & 255, 255, 512, 0);
        Check.memory(x, "still open", 4093, f[10] & 255, 255, 512, 1);
        x.run(1);
        Check.memory(x, "opened again", 4089, f[13] & 255, 255, 516, 1);
        Check.memory(x, "opened again", 4091, f[15] & 255, 255, 516, 1);
        Check.memory(x, "never closed", 4093, f[10] & 255, 255, 512, 1);
        x.run(1);
        Check.memory(x, "all closed", 4095, f[12] & 255, 255, 512, 0);
        x.run(1);
        Check.memory(x, "all open", 3072, f[17] & 255, 255, 518, 1);
        Check.memory(x, "below the stack", 3071, 0, 255, 0, 0);
        Check.memory(x, "all open", 4095, Check.filling(FILLING, 17 + 1024)[17 + 1023] & 255, 255, 518, 1);
    }

    private static void stackAndMarks() {
        ShadeBench x = Check.bench(FILLING, 0, "li r7, 4000", "li r1, 4010", "mark r1, 4, 0", "li r1, 3990", "mark r1, 4, 2",
                "sub r7, r7, 4", "halt");
        x.run(5);
        Check.due("closed by a mark", x.memory(4010, 3), 0);
        Check.due("opened by a mark", x.memory(3990, 3), 1);
        x.run(1);
        Check.due("open, as r7 says", x.memory(4010, 3), 1);
        Check.due("of the ORIGIN then", x.memory(4010, 2), 517);
        Check.due("closed, as r7 says", x.memory(3990, 3), 0);
        ShadeBench y = Check.ran(FILLING, 0, "li r1, 3070", "mark r1, 4, 2", "li r7, 4096", "halt");
        Check.due("ahead of the STACK", y.memory(3071, 3), 1);
        Check.due("its beginning", y.memory(3072, 3), 0);
        Check.due("its beginning", y.memory(3073, 3), 0);
    }

    private static void copies() {
        int[] f = Check.filling(FILLING, 20);
        ShadeBench x = Check.ran(FILLING, 0, "li r1, 256", "li r2, 0x04030201", "sw r2, r1, 0", "sw r3, r1, 4", "li r2, 258",
                "copy r2, r1, 8", "li r4, 400", "copy r4, r1, r7", "halt");
        int[] due = {1, 2, 1, 2, 3, 4};
        for (int i = 0; i < due.length; i++) {
            Check.memory(x, "copy upward", 256 + i, due[i], 0, 0, 1);
        }
        Check.memory(x, "copy upward", 262, f[3] & 255, 255, 4, 1);
        Check.memory(x, "copy upward", 265, f[3] >>> 24, 255, 4, 1);
        Check.memory(x, "behind it", 266, 0, 0, 0, 1);
        Check.due("X too great", x.state(1), 5);
        ShadeBench y = Check.ran(FILLING, 0, "li r1, 260", "li r2, 0x04030201", "sw r2, r1, 0", "li r2, 258", "copy r2, r1, 4",
                "copy r0, r0, 0", "copy r2, r1, 256", "li r1, 256", "copy r1, r2, 255", "copy r2, r1, 255", "halt");
        for (int i = 0; i < 4; i++) {
            Check.due("copy downward", y.memory(258 + i, 0), i + 1);
        }
        Check.report(y, "ADDRESS of D", 0, 2, 5, 1, 2);
        Check.report(y, "S is not OPEN", 1, 6, 6, 0, 1);
        Check.report(y, "S is not OPEN", 2, 6, 8, 0, 1);
        Check.report(y, "D is not OPEN", 3, 6, 9, 0, 1);
        Check.due("all reports", y.state(3), 4);
        ShadeBench z = Check.ran(FILLING, 0, "li r6, 2", "copy r0, r1, r2", "halt");
        Check.report(z, "ADDRESS of D first", 0, 2, 1, 1, 1);
        Check.report(z, "ADDRESS of S then", 1, 2, 1, 2, 1);
        Check.report(z, "SIZE of X then", 2, 5, 1, 3, 1);
        Check.due("TRAP 4, ahead of INVALID", z.state(3), 3);
        Check.due("TRAP 4", z.state(1), 5);
        ShadeBench w = Check.ran(FILLING, 0, "li r1, 256", "li r2, 256", "copy r1, r2, 256", "halt");
        Check.due("256 bytes", w.state(1), 1);
        Check.due("256 bytes: QUIET", w.state(9), 1);
    }

    private static void fills() {
        int[] f = Check.filling(FILLING, 7);
        ShadeBench x = Check.ran(FILLING, 0, "li r1, 256", "fill r1, r2, 3", "li r2, 0x1234", "li r1, 300", "fill r1, r2, 4",
                "and r3, r3, 0xff00", "li r1, 310", "fill r1, r3, 2", "fill r7, r4, 0", "li r1, 510", "fill r1, r2, 3", "halt");
        Check.memory(x, "fill", 256, f[2] & 255, 255, 3, 1);
        Check.memory(x, "fill", 258, f[2] & 255, 255, 3, 1);
        Check.memory(x, "behind", 259, 0, 0, 0, 1);
        Check.memory(x, "set", 303, 0x34, 0, 0, 1);
        Check.memory(x, "SHADE above the lowest byte", 310, 0, 0, 0, 1);
        Check.memory(x, "INVALID", 511, 0, 0, 0, 1);
        Check.report(x, "INVALID", 0, 6, 10, 0, 1);
        Check.due("all reports", x.state(3), 1);
        ShadeBench y = Check.ran(FILLING, 0, "fill r1, r2, r3");
        Check.report(y, "ADDRESS of D", 0, 2, 0, 2, 1);
        Check.report(y, "SIZE of X", 1, 5, 0, 4, 1);
        Check.due("V is not looked at", y.state(3), 2);
    }

    private static void marks() {
        int[] f = Check.filling(FILLING, 20);
        ShadeBench x = Check.ran(FILLING, 0, "li r1, 256", "li r2, 0x05060708", "sw r2, r1, 0", "mark r1, 1, 0", "li r1, 257",
                "mark r1, 2, 1", "li r1, 258", "mark r1, 1, 2", "li r1, 100", "mark r1, 1, 1", "li r1, 4096", "mark r1, 0, 1",
                "li r1, 3840", "mark r1, 256, 2", "halt");
        Check.memory(x, "mark 0", 256, 8, 0, 0, 0);
        Check.memory(x, "mark 1", 257, f[7] & 255, 255, 261, 1);
        Check.memory(x, "mark 2", 258, f[8] & 255, 0, 0, 1);
        Check.memory(x, "no mark", 259, 5, 0, 0, 1);
        Check.memory(x, "mark 1 of what was never OPEN", 100, f[9] & 255, 255, 265, 1);
        Check.memory(x, "mark 2 of the stack", 3840, 0, 0, 0, 1);
        Check.memory(x, "mark 2 of the stack", 4095, 0, 0, 0, 1);
        Check.due("QUIET", x.state(9), 1);
        Check.due("halted", x.state(1), 1);
        ShadeBench z = Check.ran(FILLING, 0, "li r1, 0", "mark r1, 2, 2", "li r1, 4094", "mark r1, 2, 2", "halt");
        ShadeBench w = Check.ran(FILLING, 0, "li r1, 256", "mark r1, 3, 0", "li r1, 300", "li r2, 0x04030201", "sw r2, r1, 0",
                "mark r1, 3, 2", "halt");
        Check.memory(w, "the last that is CLOSED", 258, 0, 0, 0, 0);
        Check.memory(w, "the one behind", 259, 0, 0, 0, 1);
        for (int i = 0; i < 4; i++) {
            Check.memory(w, "bits stay", 300 + i, i + 1, 0, 0, 1);
        }
        Check.memory(z, "the first byte", 0, 0, 0, 0, 1);
        Check.memory(z, "the second byte", 1, 0, 0, 0, 1);
        Check.memory(z, "the third byte", 2, 0, 255, 0, 0);
        Check.memory(z, "the last byte", 4095, 0, 0, 0, 1);
        ShadeBench y = Check.ran(FILLING, 0, "mark r1, r2, 5");
        Check.report(y, "ADDRESS", 0, 2, 0, 2, 1);
        Check.report(y, "SIZE", 1, 5, 0, 3, 1);
        Check.due("then TRAP 4", y.state(1), 5);
        Check.due("nothing else", y.state(3), 2);
    }

    private static void looks() {
        ShadeBench x = Check.ran(FILLING, 0, "li r1, 300", "look r2, r1, 100", "sb r0, r1, 7", "look r3, r1, 100",
                "look r4, r1, 7", "li r1, 500", "look r5, r1, 20", "look r6, r1, 0", "halt");
        Check.register(x, "all set", 2, -1, 0, 0);
        Check.register(x, "one with a SHADE", 3, 307, 0, 0);
        Check.register(x, "ahead of it", 4, -1, 0, 0);
        Check.register(x, "one that is not OPEN", 5, 512, 0, 0);
        Check.register(x, "none", 6, -1, 0, 0);
        Check.due("QUIET", x.state(9), 1);
        ShadeBench y = Check.ran(FILLING, 0, "look r0, r1, r2");
        Check.report(y, "ADDRESS", 0, 2, 0, 2, 1);
        Check.report(y, "SIZE", 1, 5, 0, 3, 1);
        Check.due("then TRAP 4", y.state(1), 5);
        ShadeBench z = Check.ran(FILLING, 0, "li r7, 4000", "li r1, 4000", "look r7, r1, 4", "look r7, r7, 0");
        Check.due("r7 is -1: TRAP 2", z.state(1), 3);
        Check.register(z, "r7 stays", 7, 4000, 0, 0);
    }
}
