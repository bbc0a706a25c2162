/** Each sentence of THE MACHINE that tells an edge: of registers, of memory, of what BEGINS, of a FILLING. */
public final class EdgesOfMachineTest {
    private static final int MIN = Integer.MIN_VALUE;
    private static final int MAX = Integer.MAX_VALUE;

    public static void main(String[] args) {
        registers();
        parts();
        lowestFirst();
        begins();
        fillings();
        unsetting();
        closed();
        Check.close();
    }

    private static void registers() {
        Check.sentence("REGISTERS r0 .. r7 have 32 bits.");
        ShadeBench x = Check.ran(0, 0, "li r0, 4294967295", "add r1, r0, 1", "li r2, 0x7fffffff", "add r3, r2, 1", "sub r4, r3, 1",
                "li r5, 0x10000", "mul r5, r5, r5", "mv r6, r7", "halt");
        int[] due = {-1, 0, MAX, MIN, MAX, 0, 4096, 4096};
        for (int r = 0; r < 8; r++) {
            Check.register(x, "wrapped", r, due[r], 0, 0);
        }
    }

    private static void parts() {
        Check.sentence("MEMORY has bytes 0 .. 4095: 256 .. 511 are GLOBALS, 1024 .. 3071 the HEAP, 3072 .. 4095 the STACK;");
        ShadeBench x = Check.ran(0, 0, "li r7, 3072", "new r1, 512", "new r1, 512", "new r1, 512", "new r1, 448", "halt");
        int[] edges = {0, 255, 256, 511, 512, 1023, 1031, 1032, 3063, 3064, 3071, 3072, 4095};
        int[] open = {0, 0, 1, 1, 0, 0, 0, 1, 1, 0, 0, 1, 1};
        for (int i = 0; i < edges.length; i++) {
            Check.due("memory(" + edges[i] + ", 3)", x.memory(edges[i], 3), open[i]);
        }
        Check.due("the first of the HEAP", x.block(1, 0), 1032);
        Check.due("the last of the HEAP", x.block(4, 0) + 448 + 8, 3072);
    }

    private static void lowestFirst() {
        Check.sentence("numbers of more bytes have the lowest byte first, at any address.");
        for (int a = 256; a < 260; a++) {
            ShadeBench x = Check.ran(0, 0, "li r1, " + a, "li r2, 0x80706050", "sw r2, r1, 0", "sh r2, r1, 8", "lw r3, r1, 0",
                    "lhu r4, r1, 1", "halt");
            int[] bytes = {0x50, 0x60, 0x70, 0x80, 0, 0, 0, 0, 0x50, 0x60, 0};
            for (int i = 0; i < bytes.length; i++) {
                Check.memory(x, "at " + a, a + i, bytes[i], 0, 0, 1);
            }
            Check.register(x, "lw at " + a, 3, 0x80706050, 0, 0);
            Check.register(x, "lhu at " + (a + 1), 4, 0x7060, 0, 0);
        }
    }

    private static void asItBegins(ShadeBench x, int filling) {
        int[] f = Check.filling(filling, 7);
        for (int r = 0; r < 7; r++) {
            Check.register(x, "begin(" + filling + ", ..)", r, f[r], -1, r + 1);
        }
        Check.register(x, "begin(" + filling + ", ..)", 7, 4096, 0, 0);
        for (int a : new int[] {0, 255, 512, 1023, 1024, 1032, 3071, 3072, 4095}) {
            Check.memory(x, "begin(" + filling + ", ..)", a, 0, 255, 0, 0);
        }
        for (int a : new int[] {256, 300, 511}) {
            Check.memory(x, "begin(" + filling + ", ..)", a, 0, 0, 0, 1);
        }
    }

    private static void begins() {
        Check.sentence("r0 .. r6 are UNSET, of ORIGIN 1 to 7, r7 is 4096, set; GLOBALS are OPEN, 0, set; no other byte is OPEN; all other bytes are 0, UNSET, of ORIGIN 0.");
        ShadeBench x = Check.bench(5, 0, "li r1, 0", "mark r1, 256, 2", "li r1, 256", "fill r1, r0, 256", "mark r1, 3, 0",
                "li r7, 3072", "new r2, 512", "li r1, 512", "mark r1, 256, 1", "halt");
        asItBegins(x, 5);
        x.run(20);
        x.begin(6, 1);
        asItBegins(x, 6);
    }

    private static void fillings() {
        Check.sentence("s = F at first; each 32 bits asked for: s = s * 1664525 + 1013904223 (wrapping); a register has s ^ (s >>> 16); a byte the lowest 8 bits of that.");
        for (int filling : new int[] {0, 1, -1, MIN, MAX, 0x10000, 0xffff0000}) {
            ShadeBench x = Check.bench(filling, 0, "new r1, 3", "li r7, 4095", "li r1, 300", "mark r1, 2, 1", "halt");
            asItBegins(x, filling);
            x.run(9);
            // The numbers go on one after the other: seven registers, three bytes, one, two.
            int[] bytes = {1032, 1033, 1034, 4095, 300, 301};
            for (int i = 0; i < bytes.length; i++) {
                Check.due("FILLING " + filling + ": memory(" + bytes[i] + ", 0)", x.memory(bytes[i], 0), next(filling, 7 + i));
            }
        }
    }

    /** The lowest 8 bits of the number that comes behind so many others, by arithmetic of longs. */
    private static int next(int filling, int before) {
        long s = filling & 0xffffffffL;
        for (int i = 0; i <= before; i++) {
            s = (s * 1664525L + 1013904223L) % 0x100000000L;
        }
        return (int) ((s ^ s / 65536) % 256);
    }

    private static void unsetting() {
        Check.sentence("UNSETTING bytes from the lowest on: each becomes OPEN, gets its 8 bits by F, is UNSET, and of an ORIGIN.");
        ShadeBench x = Check.ran(3, 0, "new r1, 2", "li r1, 511", "mark r1, 2, 1", "li r7, 4094", "li r2, 0", "new r3, r2", "new r3, 1",
                "halt");
        Check.memory(x, "new: the lowest", 1032, next(3, 7), 255, 9, 1);
        Check.memory(x, "new: the highest", 1033, next(3, 8), 255, 9, 1);
        Check.memory(x, "new: behind it", 1034, 0, 255, 0, 0);
        Check.memory(x, "mark: ahead of it", 510, 0, 0, 0, 1);
        Check.memory(x, "mark: what was OPEN and set", 511, next(3, 9), 255, 258, 1);
        Check.memory(x, "mark: what was not OPEN", 512, next(3, 10), 255, 258, 1);
        Check.memory(x, "mark: behind it", 513, 0, 255, 0, 0);
        Check.memory(x, "r7: below it", 4093, 0, 255, 0, 0);
        Check.memory(x, "r7: the lowest", 4094, next(3, 11), 255, 515, 1);
        Check.memory(x, "r7: the highest", 4095, next(3, 12), 255, 515, 1);
        Check.memory(x, "a block of no bytes asks for none", x.block(3, 0), next(3, 13), 255, 11, 1);
    }

    private static void closed() {
        Check.sentence("What is CLOSED is not OPEN any more (bits and shades stay).");
        ShadeBench x = Check.ran(3, 0, "new r1, 2", "li r2, 77", "sb r2, r1, 1", "free r1", "li r1, 256", "sb r2, r1, 0", "sb r0, r1, 1",
                "mark r1, 2, 0", "push r2", "push r3", "add r7, r7, 8", "halt");
        int[] f = Check.filling(3, 7);
        Check.memory(x, "free: UNSET", 1032, next(3, 7), 255, 9, 0);
        Check.memory(x, "free: set", 1033, 77, 0, 0, 0);
        Check.memory(x, "mark: set", 256, 77, 0, 0, 0);
        Check.memory(x, "mark: UNSET", 257, f[0] & 255, 255, 1, 0);
        Check.memory(x, "mark: behind it", 258, 0, 0, 0, 1);
        Check.memory(x, "r7: set", 4092, 77, 0, 0, 0);
        Check.memory(x, "r7: UNSET", 4088, f[3] & 255, 255, 4, 0);
        Check.memory(x, "r7: UNSET", 4091, f[3] >>> 24, 255, 4, 0);
    }
}
