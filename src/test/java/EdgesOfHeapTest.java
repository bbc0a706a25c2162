/** Each sentence of THE HEAP that tells an edge: of sizes, of places, of what is KEPT, of grow, of LEAKS. */
public final class EdgesOfHeapTest {
    private static final int MIN = Integer.MIN_VALUE;
    private static final int MAX = Integer.MAX_VALUE;
    private static final int FILLING = 31;

    public static void main(String[] args) {
        aHundred();
        sizeIsReported();
        sizes();
        places();
        fullHeap();
        gaps();
        none();
        freshBytes();
        address();
        freeOfNothing();
        freeIsRefused();
        freeKeeps();
        quarantine();
        quarantineAnew();
        growOfNothing();
        growIsRefused();
        growWithoutRoom();
        growCopies();
        pointers();
        whatIsNoPointer();
        reached();
        perhaps();
        beneath();
        Check.close();
    }

    private static void block(ShadeBench x, String name, int n, int address, int size, int condition) {
        Check.due(name + ": block(" + n + ", 0)", x.block(n, 0), address);
        Check.due(name + ": block(" + n + ", 1)", x.block(n, 1), size);
        Check.due(name + ": block(" + n + ", 2)", x.block(n, 2), condition);
    }

    private static void leaks(ShadeBench x, String name, int... due) {
        for (int i = 0; i < due.length; i++) {
            Check.due(name + ": block(" + (i + 1) + ", 5)", x.block(i + 1, 5), due[i]);
        }
    }

    private static void aHundred() {
        Check.sentence("BLOCKS are numbered from 1 on, 100 at most.");
        ShadeBench x = Check.bench(FILLING, 0, "li r2, 99", "a: new r1, 0", "sub r2, r2, 1", "bne r2, 0, a", "new r1, 8", "new r3, 0", "zero r4, 0",
                "grow r5, r1, 9", "free r1", "new r6, 0", "halt");
        x.run(1 + 3 * 99 + 1);
        Check.due("100 were made", x.state(7), 100);
        block(x, "the first", 1, 1032, 0, 2);
        block(x, "the 99th", 99, 1032 + 98 * 16, 0, 2);
        block(x, "the 100th", 100, 1032 + 99 * 16, 8, 2);
        Check.due("the ORIGIN of its bytes", x.memory(1032 + 99 * 16, 2), 108);
        x.run(20);
        for (int r = 3; r <= 6; r++) {
            Check.register(x, "no more", r, 0, 0, 0);
        }
        Check.due("no more were made", x.state(7), 100);
        Check.due("block(101, 0)", x.block(101, 0), Check.NONE);
        block(x, "the 100th is freed", 100, 1032 + 99 * 16, 8, 1);
        Check.due("it was freed by free", x.block(100, 4), 8);
        Check.due("QUIET", x.state(9), 1);
    }

    private static void sizeIsReported() {
        Check.sentence("SIZE is reported if X has a SHADE (it goes on by its value);");
        for (String name : new String[] {"new", "zero"}) {
            ShadeBench x = Check.shaded(1, new int[] {512, 1, 0, 0}, name + " r3, r1");
            Check.report(x, name, 0, 5, 4, 2, 1);
            block(x, name, 1, 1032, 512, 2);
            ShadeBench y = Check.shaded(1, new int[] {513, MIN, 0, 0}, name + " r3, r1");
            Check.report(y, name + " of 513", 0, 5, 4, 2, 1);
            Check.register(y, name + " of 513", 3, 0, 0, 0);
            ShadeBench z = Check.shaded(1, new int[] {8, 0, 0, 0}, name + " r3, r1");
            Check.due(name + " of a set size", z.state(4), 0);
        }
    }

    private static void sizes() {
        Check.sentence("X is 0 .. 512, else R is 0, set.");
        for (String name : new String[] {"new", "zero"}) {
            for (int size : new int[] {0, 1, 511, 512}) {
                ShadeBench x = Check.ran(FILLING, 0, name + " r1, " + size, "halt");
                Check.register(x, name + " of " + size, 1, 1032, 0, 0);
                block(x, name + " of " + size, 1, 1032, size, 2);
                Check.due(name + " of " + size + ": its first byte", x.memory(1032, 3), size == 0 ? 0 : 1);
                Check.due(name + " of " + size + ": its last byte", x.memory(1031 + size, 3), size == 0 ? 0 : 1);
                Check.due(name + " of " + size + ": ahead of it", x.memory(1031, 3), 0);
                Check.due(name + " of " + size + ": behind it", x.memory(1032 + size, 3), 0);
            }
            for (int size : new int[] {-1, 513, MIN, MAX}) {
                ShadeBench x = Check.ran(FILLING, 0, name + " r1, " + size, "halt");
                Check.register(x, name + " of " + size, 1, 0, 0, 0);
                Check.due(name + " of " + size + ": none is made", x.state(7), 0);
                Check.due(name + " of " + size + ": QUIET", x.state(9), 1);
            }
        }
    }

    private static void places() {
        Check.sentence("such that it, with 8 bytes ahead and from its end up to the next multiple of 8 and 8 bytes more, lies in the HEAP and on nothing that a block IN USE or KEPT has so (its SPAN).");
        int[] sizes = {0, 1, 7, 8, 9, 15, 16, 17};
        int[] spans = {16, 24, 24, 24, 32, 32, 32, 40};
        StringBuilder text = new StringBuilder();
        for (int size : sizes) {
            text.append("new r1, ").append(size).append("\nfree r1\nzero r1, ").append(size).append('\n');
        }
        ShadeBench x = Check.ran(FILLING, 0, text.toString().split("\n"));
        int next = 1032;
        for (int i = 0; i < sizes.length; i++) {
            block(x, "KEPT", 2 * i + 1, next, sizes[i], 1);
            block(x, "IN USE", 2 * i + 2, next + spans[i], sizes[i], 2);
            next += 2 * spans[i];
        }
    }

    private static void fullHeap() {
        Check.sentence("The block lies at the least address that is 1024 or more, a multiple of 8,");
        String[] three = {"new r1, 512", "new r2, 512", "new r3, 512"};
        for (int size : new int[] {440, 441, 447, 448, 449, 456, 457, 512}) {
            ShadeBench x = Check.ran(FILLING, 0, three[0], three[1], three[2], "zero r4, " + size, "new r5, 0", "halt");
            boolean fits = size <= 448;
            Check.register(x, "the last of " + size, 4, fits ? 2616 : 0, 0, 0);
            // Up to 440 bytes leave eight of them, which are too few for a SPAN.
            Check.register(x, "none behind it", 5, fits ? 0 : 2616, 0, 0);
            Check.due("the last byte of the HEAP", x.memory(3071, 3), 0);
        }
        ShadeBench y = Check.ran(FILLING, 0, three[0], three[1], three[2], "new r4, 432", "new r5, 0", "new r6, 0", "halt");
        Check.register(y, "a SPAN of 16 bytes at the end", 5, 3064, 0, 0);
        Check.register(y, "none behind it", 6, 0, 0, 0);
    }

    private static void gaps() {
        Check.sentence("The block lies at the least address that is 1024 or more,");
        String[] start = {"new r1, 8", "new r2, 8", "new r3, 512", "free r1", "free r3"};
        int[] sizes = {0, 1, 8, 9, 16, 448};
        int[] due = {1032, 1032, 1032, 1608, 1608, 1608};
        for (int i = 0; i < sizes.length; i++) {
            ShadeBench x = Check.ran(FILLING, 0, start[0], start[1], start[2], start[3], start[4], "new r4, " + sizes[i], "halt");
            Check.due("the first is GONE", x.block(1, 2), 0);
            Check.due("the third is KEPT", x.block(3, 2), 1);
            block(x, "a new one of " + sizes[i], 4, due[i], sizes[i], 2);
        }
        // Two that are GONE side by side make one gap; one that is IN USE between them parts it.
        ShadeBench y = Check.ran(FILLING, 0, "new r1, 8", "new r2, 8", "new r3, 8", "new r4, 512", "free r1", "free r2", "free r4", "new r5, 32",
                "halt");
        block(y, "in two gaps", 5, 1032, 32, 2);
        ShadeBench z = Check.ran(FILLING, 0, "new r1, 8", "new r2, 8", "new r3, 8", "new r4, 512", "free r1", "free r3", "free r4", "new r5, 32",
                "new r6, 8", "halt");
        block(z, "in none of two", 5, 1632, 32, 2);
        block(z, "in the first of two", 6, 1032, 8, 2);
    }

    private static void none() {
        Check.sentence("None (or 100 were made): R is 0.");
        ShadeBench x = Check.ran(FILLING, 0, "new r1, 512", "new r1, 512", "new r1, 512", "new r1, 448", "new r1, 0", "zero r2, 0", "new r3, 512",
                "halt");
        for (int r = 1; r <= 3; r++) {
            Check.register(x, "the HEAP is full", r, 0, 0, 0);
        }
        Check.due("blocks made", x.state(7), 4);
        Check.due("QUIET", x.state(9), 1);
    }

    private static void freshBytes() {
        Check.sentence("Its bytes are UNSET (of ORIGIN 8 and its number), for zero 0, set and OPEN.");
        int[] f = Check.filling(FILLING, 40);
        ShadeBench x = Check.ran(FILLING, 0, "new r1, 9", "zero r2, 9", "new r3, 1", "halt");
        Check.memory(x, "new: ahead of it", 1031, 0, 255, 0, 0);
        Check.memory(x, "new: the first", 1032, f[7] & 255, 255, 9, 1);
        Check.memory(x, "new: the last", 1040, f[15] & 255, 255, 9, 1);
        Check.memory(x, "new: behind it", 1041, 0, 255, 0, 0);
        Check.memory(x, "zero: ahead of it", 1063, 0, 255, 0, 0);
        Check.memory(x, "zero: the first", 1064, 0, 0, 0, 1);
        Check.memory(x, "zero: the last", 1072, 0, 0, 0, 1);
        Check.memory(x, "zero: behind it", 1073, 0, 255, 0, 0);
        Check.memory(x, "the third: its ORIGIN", 1096, f[16] & 255, 255, 11, 1);
        // What another block left there counts no more.
        ShadeBench y = Check.ran(FILLING, 0, "new r1, 8", "li r2, 77", "fill r1, r2, 8", "new r3, 512", "free r1", "free r3", "zero r4, 4", "halt");
        Check.memory(y, "zero at the place of another", 1032, 0, 0, 0, 1);
        Check.memory(y, "behind it", 1036, 77, 0, 0, 0);
        ShadeBench z = Check.ran(FILLING, 0, "new r1, 8", "li r2, 77", "fill r1, r2, 8", "new r3, 512", "free r1", "free r3", "new r4, 4", "halt");
        Check.memory(z, "new at the place of another", 1035, Check.filling(FILLING, 531)[7 + 8 + 512 + 3] & 255, 255, 11, 1);
        Check.memory(z, "behind it", 1036, 77, 0, 0, 0);
    }

    private static void address() {
        Check.sentence("R is its address, set.");
        ShadeBench x = Check.ran(FILLING, 0, "new r0, 0", "zero r6, 1", "new r6, r7", "halt");
        Check.register(x, "of no bytes", 0, 1032, 0, 0);
        Check.register(x, "too many for it", 6, 0, 0, 0);
        Check.due("zero was made", x.block(2, 0), 1048);
        ShadeBench y = Check.ran(FILLING, 0, "li r1, 16", "new r1, r1", "halt");
        Check.register(y, "the same register", 1, 1032, 0, 0);
        Check.due("its size", y.block(1, 1), 16);
    }

    private static void freeOfNothing() {
        Check.sentence("free R: ADDRESS as told; 0 does nothing;");
        ShadeBench x = Check.ran(FILLING, 0, "new r1, 8", "li r2, 0", "free r2", "halt");
        Check.due("0: QUIET", x.state(9), 1);
        block(x, "0", 1, 1032, 8, 2);
        ShadeBench y = Check.shaded(1, new int[] {0, 1, 0, 0}, "free r1");
        Check.report(y, "0 with a SHADE", 0, 2, 4, 2, 1);
        Check.due("0 with a SHADE: no more", y.state(4), 1);
        ShadeBench z = Check.shaded(1, new int[] {1032, 1, 0, 0}, "new r3, 8\nfree r1");
        Check.report(z, "1032 with a SHADE", 0, 2, 5, 2, 1);
        Check.due("1032 with a SHADE: no more", z.state(4), 1);
        block(z, "1032 with a SHADE", 1, 1032, 8, 1);
    }

    private static void freeIsRefused() {
        Check.sentence("INVALID FREE is reported if no block IN USE begins there;");
        int[] wrong = {1, -1, MIN, MAX, 256, 1024, 1031, 1033, 1039, 1040, 1047, 1048, 3071, 3072, 4096};
        int[] origins = {0, 0, 0, 0, 0, 1, 1, 1, 1, 1, 1, 0, 0, 0, 0};
        for (int i = 0; i < wrong.length; i++) {
            ShadeBench x = Check.ran(FILLING, 0, "new r1, 8", "li r2, " + wrong[i], "free r2", "halt");
            Check.report(x, "free of " + wrong[i], 0, 7, 2, origins[i], 1);
            Check.due("free of " + wrong[i] + ": one report", x.state(4), 1);
            block(x, "free of " + wrong[i], 1, 1032, 8, 2);
            Check.due("free of " + wrong[i] + ": its bytes", x.memory(1032, 3), 1);
            Check.due("free of " + wrong[i] + ": it goes on", x.state(1), 1);
        }
        ShadeBench y = Check.ran(FILLING, 0, "new r1, 8", "free r1", "free r1", "new r2, 512", "free r2", "free r1", "halt");
        Check.report(y, "of what is KEPT", 0, 7, 2, 1, 1);
        Check.report(y, "of what is GONE", 1, 7, 5, 0, 1);
        Check.due("freed by the first", y.block(1, 4), 1);
        ShadeBench z = Check.ran(FILLING, 0, "new r1, 0", "free r1", "free r1", "halt");
        Check.report(z, "of size 0, twice", 0, 7, 2, 1, 1);
        Check.due("of size 0, twice", z.state(4), 1);
    }

    private static void freeKeeps() {
        Check.sentence("else its bytes are CLOSED, it is KEPT;");
        ShadeBench x = Check.ran(FILLING, 0, "new r1, 16", "li r2, 77", "fill r1, r2, 15", "new r3, 8", "free r1", "halt");
        Check.memory(x, "the first", 1032, 77, 0, 0, 0);
        Check.memory(x, "the last but one", 1046, 77, 0, 0, 0);
        Check.memory(x, "the last", 1047, Check.filling(FILLING, 23)[22] & 255, 255, 9, 0);
        Check.due("another block's", x.memory(1064, 3), 1);
        block(x, "KEPT", 1, 1032, 16, 1);
        ShadeBench y = Check.ran(FILLING, 0, "new r1, 0", "free r1", "halt");
        block(y, "of no bytes", 1, 1032, 0, 1);
        ShadeBench z = Check.ran(FILLING, 0, "new r1, 1", "li r2, 1033", "mark r2, 1, 2", "free r1", "halt");
        Check.due("its own bytes alone", z.memory(1033, 3), 1);
        Check.due("its own byte", z.memory(1032, 3), 0);
    }

    private static void quarantine() {
        Check.sentence("as long as those KEPT have more than 512 bytes together, the one that is KEPT longest is GONE.");
        int[][] sizes = {{512, 0, 0}, {256, 256, 0}, {256, 257, 0}, {1, 512, 0}, {100, 412, 1}, {100, 413, 100}, {0, 512, 0}, {0, 512, 1},
            {200, 200, 512}, {1, 1, 512}, {1, 1, 511}};
        int[][] due = {{1, 1, 1}, {1, 1, 1}, {0, 1, 1}, {0, 1, 1}, {0, 1, 1}, {0, 0, 1}, {1, 1, 1}, {0, 0, 1}, {0, 0, 1}, {0, 0, 1},
            {0, 1, 1}};
        // {100, 413}: the first is GONE; with 100 more there are 513, so that the second is GONE as well.
        for (int i = 0; i < sizes.length; i++) {
            ShadeBench x = Check.ran(FILLING, 0, "new r1, " + sizes[i][0], "new r2, " + sizes[i][1], "new r3, " + sizes[i][2], "free r1", "free r2",
                    "free r3", "halt");
            for (int n = 1; n <= 3; n++) {
                Check.due("row " + i + ": block(" + n + ", 2)", x.block(n, 2), due[i][n - 1]);
                Check.due("row " + i + ": block(" + n + ", 4)", x.block(n, 4), 2 + n);
            }
        }
        ShadeBench order = Check.ran(FILLING, 0, "new r1, 200", "new r2, 200", "new r3, 200", "free r3", "free r1", "free r2", "halt");
        Check.due("KEPT longest: the third", order.block(3, 2), 0);
        Check.due("not the first", order.block(1, 2), 1);
        Check.due("not the second", order.block(2, 2), 1);
    }

    private static void quarantineAnew() {
        Check.sentence("the one that is KEPT longest is GONE.");
        ShadeBench x = Check.bench(FILLING, 0, "new r1, 300", "new r2, 300", "new r3, 300", "free r1", "free r2", "free r3", "halt");
        for (int i = 0; i < 3; i++) {
            x.begin(i, 0);
            x.run(4);
            Check.due("begun anew: the first is KEPT", x.block(1, 2), 1);
            x.run(9);
            int[] due = {0, 0, 1};
            for (int n = 1; n <= 3; n++) {
                Check.due("begun anew: block(" + n + ", 2)", x.block(n, 2), due[n - 1]);
            }
        }
        // Another program gives them back in another order.
        Check.feed(x, "new r1, 300\nnew r2, 300\nnew r3, 300\nfree r3\nfree r2\nfree r1");
        x.assemble();
        x.run(9);
        int[] other = {1, 0, 0};
        for (int n = 1; n <= 3; n++) {
            Check.due("another program: block(" + n + ", 2)", x.block(n, 2), other[n - 1]);
        }
        ShadeBench y = Check.bench(FILLING, 0, "new r1, 300", "free r1", "new r1, 212", "free r1", "halt");
        for (int i = 0; i < 3; i++) {
            y.begin(i, 0);
            y.run(9);
            Check.due("begun anew: 512 are KEPT", y.block(1, 2), 1);
            Check.due("begun anew: 512 are KEPT", y.block(2, 2), 1);
        }
    }

    private static void growOfNothing() {
        Check.sentence("grow R, A, X: ADDRESS, SIZE are reported as told; A 0: as new;");
        ShadeBench x = Check.ran(FILLING, 0, "li r1, 0", "grow r2, r1, 512", "grow r3, r1, 0", "grow r4, r1, 513", "grow r5, r1, -1", "halt");
        Check.register(x, "512", 2, 1032, 0, 0);
        Check.memory(x, "512: its bytes", 1032, Check.filling(FILLING, 8)[7] & 255, 255, 9, 1);
        Check.register(x, "0", 3, 1560, 0, 0);
        Check.register(x, "513", 4, 0, 0, 0);
        Check.register(x, "-1", 5, 0, 0, 0);
        Check.due("QUIET", x.state(9), 1);
        ShadeBench y = Check.shaded(1, new int[] {0, 1, 8, 1}, "grow r3, r1, r2");
        Check.report(y, "ADDRESS of 0", 0, 2, 4, 2, 1);
        Check.report(y, "SIZE of 8", 1, 5, 4, 3, 1);
        Check.due("no more", y.state(4), 2);
        block(y, "made still", 1, 1032, 8, 2);
    }

    private static void growIsRefused() {
        Check.sentence("INVALID FREE as there (R is 0);");
        int[] wrong = {1, -1, MIN, 1031, 1033, 1040, 1048, 4096};
        int[] origins = {0, 0, 0, 1, 1, 1, 0, 0};
        for (int i = 0; i < wrong.length; i++) {
            ShadeBench x = Check.ran(FILLING, 0, "new r1, 8", "li r2, " + wrong[i], "grow r3, r2, 16", "halt");
            Check.report(x, "grow of " + wrong[i], 0, 7, 2, origins[i], 1);
            Check.due("grow of " + wrong[i] + ": one report", x.state(4), 1);
            Check.register(x, "grow of " + wrong[i], 3, 0, 0, 0);
            Check.due("grow of " + wrong[i] + ": none is made", x.state(7), 1);
            block(x, "grow of " + wrong[i], 1, 1032, 8, 2);
        }
        ShadeBench y = Check.ran(FILLING, 0, "new r1, 8", "free r1", "grow r2, r1, 8", "halt");
        Check.report(y, "of what is KEPT", 0, 7, 2, 1, 1);
        Check.register(y, "of what is KEPT", 2, 0, 0, 0);
    }

    private static void growWithoutRoom() {
        Check.sentence("else as new for X; if there is none, R is 0, and the block stays;");
        for (String size : new String[] {"513", "-1", "0x80000000"}) {
            ShadeBench x = Check.ran(FILLING, 0, "new r1, 8", "grow r2, r1, " + size, "halt");
            Check.register(x, size, 2, 0, 0, 0);
            block(x, size, 1, 1032, 8, 2);
            Check.due(size + ": its bytes", x.memory(1032, 3), 1);
            Check.due(size + ": QUIET", x.state(9), 1);
        }
        // Its own SPAN is not free for the new one.
        ShadeBench y = Check.ran(FILLING, 0, "new r1, 512", "new r2, 512", "new r3, 512", "new r4, 432", "grow r5, r1, 8", "grow r6, r1, 0", "halt");
        Check.register(y, "no room", 5, 0, 0, 0);
        block(y, "another stays", 2, 1560, 512, 2);
        Check.register(y, "room for no bytes", 6, 3064, 0, 0);
        block(y, "then it is freed", 1, 1032, 512, 1);
        Check.due("freed by the second", y.block(1, 4), 5);
    }

    private static void growCopies() {
        Check.sentence("else as many bytes as both have are copied with SHADES and ORIGINS, the old one is freed.");
        for (int size : new int[] {0, 1, 7, 8, 9, 16}) {
            ShadeBench x = Check.ran(FILLING, 0, "zero r1, 8", "li r2, 77", "sb r2, r1, 0", "sb r0, r1, 7", "grow r3, r1, " + size, "halt");
            int[] f = Check.filling(FILLING, 40);
            block(x, "the old one", 1, 1032, 8, 1);
            block(x, "the new one", 2, 1056, size, 2);
            Check.register(x, "its address", 3, 1056, 0, 0);
            Check.due("the old one is freed by", x.block(1, 4), 4);
            Check.due("the new one is made by", x.block(2, 3), 4);
            Check.memory(x, "the old first byte", 1032, 77, 0, 0, 0);
            if (size > 0) {
                Check.memory(x, "the first byte", 1056, 77, 0, 0, 1);
            }
            if (size > 1) {
                Check.memory(x, "the second byte", 1057, 0, 0, 0, 1);
            }
            if (size > 7) {
                Check.memory(x, "the eighth byte", 1063, f[0] & 255, 255, 1, 1);
            }
            if (size > 8) {
                Check.memory(x, "a byte of its own", 1064, f[7 + 8] & 255, 255, 10, 1);
            }
            Check.due("behind it", x.memory(1056 + size, 3), 0);
        }
        ShadeBench chain = Check.ran(FILLING, 0, "new r1, 300", "grow r1, r1, 300", "grow r1, r1, 300", "halt");
        Check.due("freed ones go: the first", chain.block(1, 2), 0);
        Check.due("freed ones go: the second", chain.block(2, 2), 1);
        block(chain, "the third", 3, 1032 + 2 * 320, 300, 2);
    }

    private static void pointers() {
        Check.sentence("POINTERS are words of 4 bytes at multiples of 4 that are all OPEN and set, in GLOBALS, in the STACK, in blocks; and set registers.");
        // The first and the last word of each.
        int[] words = {256, 508, 3072, 4092};
        for (int word : words) {
            ShadeBench x = Check.ran(FILLING, 0, "new r1, 8", "li r7, 3072", "li r2, " + word, "sw r1, r2, 0", "li r1, 0", "halt");
            leaks(x, "a word at " + word, 3);
        }
        for (int at : new int[] {0, 4, 12}) {
            ShadeBench x = Check.ran(FILLING, 0, "new r1, 8", "new r2, 16", "sw r1, r2, " + at, "li r1, 0", "halt");
            leaks(x, "a word of a block at " + at, 3, 3);
        }
        for (int r = 0; r < 7; r++) {
            String other = "r" + (r + 1) % 7;
            ShadeBench x = Check.ran(FILLING, 0, "new r" + r + ", 8", "new " + other + ", 8", "li " + other + ", 0", "halt");
            leaks(x, "in r" + r, 3, 0);
        }
    }

    private static void whatIsNoPointer() {
        Check.sentence("POINTERS are words of 4 bytes at multiples of 4 that are all OPEN and set,");
        for (int shift = 1; shift < 4; shift++) {
            ShadeBench x = Check.ran(FILLING, 0, "new r1, 8", "li r2, 300", "sw r1, r2, " + shift, "li r1, 0", "halt");
            leaks(x, "at no multiple of 4: " + shift, 0);
        }
        for (int k = 0; k < 4; k++) {
            ShadeBench closed = Check.ran(FILLING, 0, "new r1, 8", "li r2, 300", "sw r1, r2, 0", "li r1, 0", "add r2, r2, " + k, "mark r2, 1, 0", "halt");
            leaks(closed, "byte " + k + " is not OPEN", 0);
            // Its bits are right, one of them is UNSET.
            ShadeBench unset = Check.shaded(1, new int[] {1032, 1 << 8 * k, 300, 0}, "new r3, 8\nsw r1, r2, 0\nli r3, 0\nli r1, 0\nli r2, 0");
            leaks(unset, "byte " + k + " has a SHADE", 0);
            ShadeBench register = Check.shaded(1, new int[] {1032, 1 << 8 * k, 300, 0}, "new r3, 8\nli r3, 0");
            leaks(register, "a register with a SHADE at byte " + k, 0);
            int other = 1032 ^ 1 << 8 * k + 7;
            ShadeBench bits = Check.ran(FILLING, 0, "new r1, 8", "li r1, " + other, "li r2, 300", "sw r1, r2, 0", "halt");
            leaks(bits, "another word: " + other, 0);
        }
        for (int place : new int[] {252, 512, 1024, 1048}) {
            ShadeBench x = Check.ran(FILLING, 0, "new r1, 8", "li r2, " + place, "mark r2, 4, 2", "sw r1, r2, 0", "li r1, 0", "halt");
            leaks(x, "OPEN and set, but in none of these: " + place, 0);
        }
        ShadeBench guard = Check.ran(FILLING, 0, "new r1, 8", "zero r2, 6", "li r3, 1060", "mark r3, 8, 2", "sw r1, r2, 4", "li r1, 0", "halt");
        leaks(guard, "half a word in a block", 0, 3);
        ShadeBench behind = Check.ran(FILLING, 0, "new r1, 8", "zero r2, 8", "li r3, 1064", "mark r3, 8, 2", "sw r1, r2, 8", "li r1, 0", "halt");
        leaks(behind, "behind a block", 0, 3);
        ShadeBench below = Check.ran(FILLING, 0, "new r1, 8", "push r1", "li r1, 0", "add r7, r7, 4", "halt");
        leaks(below, "below r7", 0);
        ShadeBench kept = Check.ran(FILLING, 0, "new r1, 8", "new r2, 8", "sw r1, r2, 0", "free r2", "li r1, 0", "halt");
        leaks(kept, "in what is KEPT", 0, Check.NONE);
    }

    private static void reached() {
        Check.sentence("A block IN USE is REACHED (3), if a pointer of registers, GLOBALS, the STACK, or of a REACHED block has its address (size 0, too);");
        ShadeBench x = Check.ran(FILLING, 0, "new r1, 0", "halt");
        leaks(x, "size 0", 3);
        ShadeBench chain = Check.ran(FILLING, 0, "zero r1, 4", "zero r2, 4", "zero r3, 4", "new r4, 0", "sw r2, r1, 0", "sw r3, r2, 0", "sw r4, r3, 0",
                "li r2, 0", "li r3, 0", "li r4, 0", "halt");
        leaks(chain, "a chain", 3, 3, 3, 3);
        ShadeBench back = Check.ran(FILLING, 0, "zero r1, 4", "zero r2, 4", "zero r3, 4", "sw r1, r2, 0", "sw r2, r3, 0", "li r1, 0", "li r2, 0", "halt");
        leaks(back, "a chain from the last to the first", 3, 3, 3);
        ShadeBench ring = Check.ran(FILLING, 0, "zero r1, 4", "zero r2, 4", "sw r1, r2, 0", "sw r2, r1, 0", "li r1, 0", "halt");
        leaks(ring, "a ring", 3, 3);
        ShadeBench freed = Check.ran(FILLING, 0, "new r1, 8", "free r1", "halt");
        leaks(freed, "KEPT", Check.NONE);
    }

    private static void perhaps() {
        Check.sentence("else PERHAPS (2), if such a one, or one of a PERHAPS block, leads into it (not its beginning), or one of a PERHAPS block to its beginning;");
        int[][] inside = {{8, 1, 2}, {8, 7, 2}, {8, 8, 0}, {8, -1, 0}, {8, 9, 0}, {1, 1, 0}, {0, 1, 0}, {2, 1, 2}, {512, 511, 2}, {512, 512, 0}, {8, 0, 3}};
        for (int[] one : inside) {
            ShadeBench x = Check.ran(FILLING, 0, "new r1, " + one[0], "add r1, r1, " + one[1], "halt");
            leaks(x, "of size " + one[0] + ", to " + one[1], one[2]);
            ShadeBench y = Check.ran(FILLING, 0, "new r1, " + one[0], "add r1, r1, " + one[1], "push r1", "li r1, 0", "halt");
            leaks(y, "of size " + one[0] + ", from the STACK to " + one[1], one[2]);
            ShadeBench z = Check.ran(FILLING, 0, "new r1, " + one[0], "add r1, r1, " + one[1], "zero r2, 4", "sw r1, r2, 0", "li r1, 0", "halt");
            leaks(z, "of size " + one[0] + ", from a REACHED block to " + one[1], one[2], 3);
            ShadeBench w = Check.ran(FILLING, 0, "new r1, " + one[0], "add r1, r1, " + one[1], "zero r2, 8", "sw r1, r2, 4", "li r1, 0", "add r2, r2, 1",
                    "halt");
            leaks(w, "of size " + one[0] + ", from a PERHAPS block to " + one[1], Math.min(2, one[2]), 2);
        }
        ShadeBench both = Check.ran(FILLING, 0, "new r1, 8", "add r2, r1, 4", "halt");
        leaks(both, "to both: REACHED comes first", 3);
    }

    private static void beneath() {
        Check.sentence("else BENEATH (1) if one of another block that is neither of these leads to its beginning; else LOST (0).");
        ShadeBench chain = Check.ran(FILLING, 0, "zero r1, 4", "zero r2, 4", "new r3, 0", "sw r2, r1, 0", "sw r3, r2, 0", "li r1, 0", "li r2, 0", "li r3, 0",
                "halt");
        leaks(chain, "a chain", 0, 1, 1);
        ShadeBench back = Check.ran(FILLING, 0, "new r1, 0", "zero r2, 4", "zero r3, 4", "sw r1, r2, 0", "sw r2, r3, 0", "li r1, 0", "li r2, 0", "li r3, 0",
                "halt");
        leaks(back, "a chain from the last to the first", 1, 1, 0);
        ShadeBench self = Check.ran(FILLING, 0, "zero r1, 4", "sw r1, r1, 0", "li r1, 0", "halt");
        leaks(self, "itself", 0);
        ShadeBench place = Check.ran(FILLING, 0, "new r1, 8", "new r2, 512", "free r1", "free r2", "zero r3, 8", "sw r3, r3, 0", "li r1, 0", "li r3, 0",
                "halt");
        Check.due("at the place of one that is GONE", place.block(3, 0), 1032);
        leaks(place, "itself, at the place of one that is GONE", Check.NONE, Check.NONE, 0);
        ShadeBench ring = Check.ran(FILLING, 0, "zero r1, 4", "zero r2, 4", "sw r1, r2, 0", "sw r2, r1, 0", "li r1, 0", "li r2, 0", "halt");
        leaks(ring, "a ring", 1, 1);
        ShadeBench inside = Check.ran(FILLING, 0, "new r1, 8", "zero r2, 4", "add r1, r1, 1", "sw r1, r2, 0", "li r1, 0", "li r2, 0", "halt");
        leaks(inside, "not its beginning", 0, 0);
        ShadeBench alone = Check.ran(FILLING, 0, "new r1, 8", "li r1, 0", "halt");
        leaks(alone, "nothing", 0);
    }
}
