/** Promise 15: block, and with it the HEAP and LEAKS. */
public final class BlockTest {
    private static final int FILLING = 31;

    public static void main(String[] args) {
        wrongInputs();
        places();
        fresh();
        refused();
        aHundred();
        freed();
        quarantine();
        placesAgain();
        grown();
        growRefused();
        reached();
        perhaps();
        beneath();
        whatIsNoPointer();
        Check.close();
    }

    private static void block(ShadeBench x, String name, int n, int address, int size, int condition) {
        Check.due(name + ": block(" + n + ", 0)", x.block(n, 0), address);
        Check.due(name + ": block(" + n + ", 1)", x.block(n, 1), size);
        Check.due(name + ": block(" + n + ", 2)", x.block(n, 2), condition);
    }

    private static void leaks(ShadeBench x, String name, int... due) {
        for (int i = 0; i < due.length; i++) {
            Check.due(name + ": block(" + (i + 1) + ", 5)", x.block(i + 1, 5), due[i]);
        }
    }

    private static void wrongInputs() {
        ShadeBench x = Check.ran(FILLING, 0, "new r1, 4", "halt");
        Check.due("block(0, 0)", x.block(0, 0), Check.NONE);
        Check.due("block(-1, 5)", x.block(-1, 5), Check.NONE);
        Check.due("block(2, 0)", x.block(2, 0), Check.NONE);
        Check.due("block(2, 5)", x.block(2, 5), Check.NONE);
        Check.due("block(101, 5)", x.block(101, 5), Check.NONE);
        Check.due("block(1, 6)", x.block(1, 6), Check.NONE);
        Check.due("block(1, -1)", x.block(1, -1), Check.NONE);
    }

    private static void places() {
        ShadeBench x = Check.ran(FILLING, 0, "new r1, 8", "new r2, 0", "new r3, 9", "zero r4, 512", "new r5, 1", "halt");
        block(x, "first", 1, 1032, 8, 2);
        block(x, "second", 2, 1056, 0, 2);
        block(x, "third", 3, 1072, 9, 2);
        block(x, "fourth", 4, 1104, 512, 2);
        block(x, "fifth", 5, 1632, 1, 2);
        Check.due("made by", x.block(4, 3), 3);
        Check.due("freed by", x.block(4, 4), Check.NONE);
        Check.register(x, "first", 1, 1032, 0, 0);
        Check.register(x, "fifth", 5, 1632, 0, 0);
        Check.due("blocks made", x.state(7), 5);
        Check.due("QUIET", x.state(9), 1);
    }

    private static void fresh() {
        int[] f = Check.filling(FILLING, 20);
        ShadeBench x = Check.ran(FILLING, 0, "new r1, 3", "zero r2, 2", "new r3, 2", "halt");
        Check.memory(x, "guard", 1031, 0, 255, 0, 0);
        Check.memory(x, "new", 1032, f[7] & 255, 255, 9, 1);
        Check.memory(x, "new", 1034, f[9] & 255, 255, 9, 1);
        Check.memory(x, "guard", 1035, 0, 255, 0, 0);
        Check.memory(x, "zero", 1056, 0, 0, 0, 1);
        Check.memory(x, "zero", 1057, 0, 0, 0, 1);
        Check.memory(x, "guard", 1058, 0, 255, 0, 0);
        Check.memory(x, "third", 1080, f[10] & 255, 255, 11, 1);
    }

    private static void refused() {
        ShadeBench x = Check.ran(FILLING, 0, "new r1, 513", "new r2, -1", "zero r3, 0x80000000", "new r4, 512", "new r5, 512",
                "new r6, 512", "zero r0, 512", "halt");
        for (int r = 0; r <= 3; r++) {
            Check.register(x, "refused", r, 0, 0, 0);
        }
        Check.due("three were made", x.state(7), 3);
        block(x, "third", 3, 1032 + 2 * 528, 512, 2);
        ShadeBench y = Check.ran(FILLING, 0, "new r1, 512", "new r1, 512", "new r1, 512", "new r1, 448", "new r2, 0", "halt");
        block(y, "the last to fit", 4, 1032 + 3 * 528, 448, 2);
        Check.register(y, "none is left", 2, 0, 0, 0);
        ShadeBench z = Check.ran(FILLING, 0, "new r1, 512", "new r1, 512", "new r1, 512", "new r1, 449", "halt");
        Check.register(z, "too long by one", 1, 0, 0, 0);
        ShadeBench w = Check.ran(FILLING, 0, "and r1, r1, 0", "and r2, r2, 4", "new r3, r2", "zero r3, r2", "halt");
        Check.report(w, "SIZE of new", 0, 5, 2, 3, 1);
        Check.report(w, "SIZE of zero", 1, 5, 3, 3, 1);
        Check.due("it goes on", w.state(7), 2);
    }

    private static void aHundred() {
        ShadeBench x = Check.bench(FILLING, 0, "a: new r1, 0", "free r1", "jmp a");
        x.run(300);
        Check.due("100 were made", x.state(7), 100);
        block(x, "block 100", 100, 1032 + 99 * 16, 0, 1);
        x.run(1);
        Check.register(x, "block 101", 1, 0, 0, 0);
        Check.due("100 were made still", x.state(7), 100);
        ShadeBench y = Check.bench(FILLING, 0, "li r2, 0", "a: mv r1, r2", "new r2, 0", "bne r2, 0, a", "halt");
        y.run(1000);
        Check.due("100 are IN USE", y.block(100, 2), 2);
        Check.due("the last is REACHED", y.block(100, 5), 3);
        Check.due("the one before is LOST", y.block(99, 5), 0);
    }

    private static void freed() {
        ShadeBench x = Check.ran(FILLING, 0, "new r1, 8", "li r2, 5", "sw r2, r1, 0", "free r1", "free r1", "li r3, 0",
                "free r3", "li r3, 1040", "free r3", "halt");
        block(x, "freed", 1, 1032, 8, 1);
        Check.due("made by", x.block(1, 3), 0);
        Check.due("freed by", x.block(1, 4), 3);
        Check.due("LEAKS", x.block(1, 5), Check.NONE);
        Check.memory(x, "freed", 1032, 5, 0, 0, 0);
        Check.memory(x, "freed", 1039, Check.filling(FILLING, 15)[14] & 255, 255, 9, 0);
        Check.report(x, "freed twice", 0, 7, 4, 1, 1);
        Check.report(x, "where none begins", 1, 7, 8, 1, 1);
        Check.due("0 does nothing", x.state(3), 2);
        ShadeBench y = Check.ran(FILLING, 0, "free r1", "and r2, r2, 0xff", "xor r2, r2, r2", "free r2", "halt");
        Check.report(y, "ADDRESS", 0, 2, 0, 2, 1);
        Check.report(y, "INVALID FREE", 1, 7, 0, 0, 1);
        Check.report(y, "ADDRESS of 0", 2, 2, 3, 3, 1);
        Check.due("0 does nothing", y.state(3), 3);
    }

    private static void quarantine() {
        ShadeBench x = Check.bench(FILLING, 0, "new r1, 200", "new r2, 200", "new r3, 112", "new r4, 0", "new r5, 1", "free r2",
                "free r1", "free r3", "free r4", "free r5", "halt");
        x.run(9);
        int[] kept = {1, 1, 1, 1, 2};
        for (int n = 1; n <= 5; n++) {
            Check.due("512 bytes are kept: block " + n, x.block(n, 2), kept[n - 1]);
        }
        x.run(1);
        int[] then = {1, 0, 1, 1, 1};
        for (int n = 1; n <= 5; n++) {
            Check.due("one is GONE: block " + n, x.block(n, 2), then[n - 1]);
        }
        Check.due("GONE: LEAKS", x.block(2, 5), Check.NONE);
        Check.due("GONE: freed by", x.block(2, 4), 5);
        ShadeBench y = Check.ran(FILLING, 0, "new r1, 100", "new r2, 300", "new r3, 512", "free r1", "free r2", "free r3", "halt");
        block(y, "GONE with others", 1, 1032, 100, 0);
        Check.due("GONE with others", y.block(2, 2), 0);
        Check.due("KEPT alone", y.block(3, 2), 1);
    }

    private static void placesAgain() {
        ShadeBench x = Check.ran(FILLING, 0, "new r1, 500", "new r2, 8", "new r3, 8", "free r1", "new r4, 8", "free r2",
                "free r3", "new r5, 500", "new r6, 8", "lw r0, r1, 600", "halt");
        block(x, "behind what is KEPT", 4, 1032 + 520 + 24 + 24, 8, 2);
        Check.due("GONE", x.block(1, 2), 0);
        block(x, "at the place of what is GONE", 5, 1032, 500, 2);
        block(x, "behind the fourth", 6, 1032 + 520 + 24 + 24 + 24, 8, 2);
        Check.memory(x, "the ORIGIN of the new one", 1032, x.memory(1032, 0), 255, 13, 1);
    }

    private static void grown() {
        int[] f = Check.filling(FILLING, 64);
        ShadeBench x = Check.ran(FILLING, 0, "new r1, 8", "li r2, 0x01020304", "sw r2, r1, 2", "grow r3, r1, 12", "grow r4, r3, 3",
                "li r5, 0", "grow r5, r5, 4", "halt");
        block(x, "old", 1, 1032, 8, 1);
        block(x, "longer", 2, 1056, 12, 1);
        block(x, "shorter", 3, 1088, 3, 2);
        block(x, "grow of 0", 4, 1112, 4, 2);
        Check.due("freed by", x.block(1, 4), 3);
        Check.due("made by", x.block(2, 3), 3);
        Check.register(x, "grow", 3, 1056, 0, 0);
        Check.memory(x, "copied", 1056, f[7] & 255, 255, 9, 0);
        Check.memory(x, "copied", 1058, 4, 0, 0, 0);
        Check.memory(x, "its own", 1064, f[15 + 8] & 255, 255, 10, 0);
        Check.memory(x, "copied again", 1089, f[8] & 255, 255, 9, 1);
        Check.memory(x, "copied again", 1090, 4, 0, 0, 1);
        Check.memory(x, "guard", 1091, 0, 255, 0, 0);
        Check.memory(x, "grow of 0", 1112, f[15 + 12 + 3] & 255, 255, 12, 1);
        Check.due("QUIET", x.state(9), 1);
    }

    private static void growRefused() {
        ShadeBench x = Check.ran(FILLING, 0, "new r1, 8", "grow r2, r1, 513", "li r3, 1040", "grow r4, r3, 8", "grow r5, r5, r6",
                "halt");
        Check.register(x, "too long", 2, 0, 0, 0);
        block(x, "the block stays", 1, 1032, 8, 2);
        Check.register(x, "no block", 4, 0, 0, 0);
        Check.report(x, "no block", 0, 7, 3, 1, 1);
        Check.report(x, "ADDRESS", 1, 2, 4, 6, 1);
        Check.report(x, "SIZE", 2, 5, 4, 7, 1);
        Check.report(x, "INVALID FREE", 3, 7, 4, 0, 1);
        Check.due("blocks made", x.state(7), 1);
        Check.due("all reports", x.state(3), 4);
        ShadeBench y = Check.ran(FILLING, 0, "new r1, 8", "grow r7, r1, 8");
        Check.due("r7: TRAP 2", y.state(1), 3);
        block(y, "all else is done", 1, 1032, 8, 1);
        block(y, "all else is done", 2, 1056, 8, 2);
    }

    private static void reached() {
        ShadeBench x = Check.bench(FILLING, 0, "new r1, 8", "new r2, 0", "new r3, 8", "zero r4, 8", "new r5, 8", "new r6, 8",
                "sw r5, r4, 4", "li r0, 256", "sw r2, r0, 252", "push r3", "li r2, 0", "li r3, 0", "li r5, 0", "li r1, 0",
                "halt");
        x.run(6);
        leaks(x, "registers", 3, 3, 3, 3, 3, 3);
        x.run(20);
        leaks(x, "GLOBALS, the STACK, a block", 0, 3, 3, 3, 3, 3);
    }

    private static void perhaps() {
        ShadeBench x = Check.ran(FILLING, 0, "new r1, 8", "zero r2, 8", "zero r3, 8", "new r4, 8", "zero r5, 8", "new r6, 8",
                "sw r3, r2, 0", "add r0, r4, 7", "sw r0, r3, 4", "sw r6, r5, 0", "add r1, r1, 1", "add r2, r2, 4", "li r3, 0",
                "li r4, 0", "add r5, r5, 8", "li r6, 0", "li r0, 0", "halt");
        leaks(x, "inside, from there, inside from there, at the end, beneath it", 2, 2, 2, 2, 0, 1);
        ShadeBench y = Check.ran(FILLING, 0, "zero r1, 8", "new r2, 8", "add r2, r2, 3", "sw r2, r1, 0", "li r2, 0", "halt");
        leaks(y, "inside, from what is REACHED", 3, 2);
        ShadeBench z = Check.ran(FILLING, 0, "zero r1, 8", "new r2, 8", "sw r2, r1, 0", "add r2, r2, 1", "add r1, r1, 4", "halt");
        leaks(z, "PERHAPS in two ways", 2, 2);
        ShadeBench w = Check.ran(FILLING, 0, "zero r1, 8", "new r2, 0", "add r2, r2, 1", "halt");
        leaks(w, "a block of size 0 has no inside", 3, 0);
        ShadeBench v = Check.bench(FILLING, 0, "new r0, 8", "add r0, r0, 7", "add r0, r0, 1", "sub r0, r0, 9", "halt");
        v.run(1);
        leaks(v, "r0", 3);
        v.run(1);
        leaks(v, "the last byte", 2);
        v.run(1);
        leaks(v, "behind it", 0);
        v.run(1);
        leaks(v, "ahead of it", 0);
    }

    private static void beneath() {
        ShadeBench x = Check.ran(FILLING, 0, "zero r1, 8", "zero r2, 8", "zero r3, 8", "sw r2, r1, 0", "sw r3, r2, 0",
                "sw r1, r1, 4", "li r1, 0", "li r2, 0", "li r3, 0", "halt");
        leaks(x, "a chain, whose first leads to itself", 0, 1, 1);
        ShadeBench y = Check.ran(FILLING, 0, "zero r1, 8", "zero r2, 8", "sw r2, r1, 0", "sw r1, r2, 0", "li r1, 0", "li r2, 0",
                "halt");
        leaks(y, "a ring", 1, 1);
        ShadeBench z = Check.ran(FILLING, 0, "zero r1, 8", "zero r2, 8", "add r3, r2, 4", "sw r3, r1, 0", "li r1, 0", "li r2, 0",
                "li r3, 0", "halt");
        leaks(z, "inside, from what is LOST", 0, 0);
        ShadeBench w = Check.ran(FILLING, 0, "zero r1, 8", "zero r2, 8", "sw r2, r1, 0", "li r2, 0", "free r1", "li r1, 0", "halt");
        leaks(w, "from what is KEPT", Check.NONE, 0);
    }

    private static void whatIsNoPointer() {
        ShadeBench x = Check.bench(FILLING, 0, "new r1, 8", "li r0, 256", "sw r1, r0, 2", "li r1, 0", "lw r1, r0, 2", "sw r1, r0, 4",
                "li r1, 0", "mark r0, 5, 0", "li r0, 257", "halt");
        x.run(4);
        leaks(x, "at no multiple of 4", 0);
        x.run(1);
        leaks(x, "in a register", 3);
        x.run(2);
        leaks(x, "at a multiple of 4", 3);
        x.run(3);
        leaks(x, "with a byte that is not OPEN", 0);
        ShadeBench y = Check.bench(FILLING, 0, "new r1, 8", "li r0, 260", "sw r1, r0, 0", "li r1, 0", "sb r2, r0, 3", "li r2, 1032",
                "xor r3, r3, r3", "or r3, r3, r2", "li r2, 0", "halt");
        y.run(4);
        leaks(y, "in GLOBALS", 3);
        y.run(1);
        leaks(y, "with a SHADE", 0);
        y.run(3);
        leaks(y, "in a set register", 3);
        y.run(9);
        leaks(y, "in a register with a SHADE", 0);
        ShadeBench w = Check.bench(FILLING, 0, "new r1, 8", "li r0, 256", "or r2, r1, 0", "xor r1, r1, 0x10000", "sw r1, r0, 0",
                "xor r1, r2, 0x1000000", "sw r1, r0, 4", "sw r2, r0, 8", "li r2, 0", "sb r2, r0, 8", "halt");
        w.run(20);
        leaks(w, "other words", 0);
        ShadeBench z = Check.ran(FILLING, 0, "new r1, 8", "push r1", "li r1, 0", "add r7, r7, 4", "halt");
        leaks(z, "below r7", 0);
    }
}
