/** Promise 11: register, and with it how values, SHADES and ORIGINS go through each instruction. */
public final class RulesTest {
    private static final int FILLING = Check.SHADED_FILLING;

    public static void main(String[] args) {
        wrongInputs();
        values();
        coarse();
        fine();
        comparisons();
        origins();
        division();
        stackPointer();
        Check.close();
    }

    private static void wrongInputs() {
        ShadeBench x = Check.bench(FILLING, 0, "halt");
        Check.due("register(-1, 0)", x.register(-1, 0), Check.NONE);
        Check.due("register(8, 0)", x.register(8, 0), Check.NONE);
        Check.due("register(0, 3)", x.register(0, 3), Check.NONE);
        Check.due("register(0, -1)", x.register(0, -1), Check.NONE);
        Check.due("register(7, 0)", x.register(7, 0), 4096);
    }

    private static void valueOf(String name, int a, int b, int due) {
        ShadeBench x = Check.ran(0, 0, "li r1, " + a, "li r2, " + b, name + " r3, r1, r2", name + " r1, r1, " + b, "halt");
        Check.register(x, name + " " + a + ", " + b, 3, due, 0, 0);
        Check.register(x, name + " " + a + ", number " + b, 1, due, 0, 0);
    }

    private static void values() {
        int min = Integer.MIN_VALUE;
        valueOf("add", Integer.MAX_VALUE, 1, min);
        valueOf("sub", 3, 5, -2);
        valueOf("mul", 65536, 65537, 65536);
        valueOf("div", -7, 2, -3);
        valueOf("div", min, -1, min);
        valueOf("rem", -7, 2, -1);
        valueOf("rem", min, -1, 0);
        valueOf("and", 12, 10, 8);
        valueOf("or", 12, 10, 14);
        valueOf("xor", 12, 10, 6);
        valueOf("shl", 3, 33, 6);
        valueOf("shr", -1, 28, 15);
        valueOf("sar", min, 31, -1);
        valueOf("eq", 4, 4, 1);
        valueOf("eq", 4, 5, 0);
        valueOf("ne", 4, 4, 0);
        valueOf("lt", -1, 0, 1);
        valueOf("lt", 0, 0, 0);
        valueOf("ltu", -1, 0, 0);
        valueOf("ltu", 0, -1, 1);
        ShadeBench x = Check.ran(0, 0, "li r1, 0x8081", "sxb r2, r1", "sxh r3, r1", "not r4, r1", "neg r5, r1", "mv r6, r1");
        Check.register(x, "sxb", 2, -127, 0, 0);
        Check.register(x, "sxh", 3, 0xffff8081, 0, 0);
        Check.register(x, "not", 4, ~0x8081, 0, 0);
        Check.register(x, "neg", 5, -0x8081, 0, 0);
        Check.register(x, "mv", 6, 0x8081, 0, 0);
    }

    private static ShadeBench shaded(int mode, int bits1, int shade1, int bits2, int shade2, String line) {
        return Check.shaded(mode, new int[] {bits1, shade1, bits2, shade2}, line);
    }

    private static void shadeOf(String line, int mode, int[] operands, int value, int shade, int origin) {
        Check.result(line, mode, operands, value, shade, origin);
    }

    private static void coarse() {
        int[] both = {5, 4, 16, 48};
        shadeOf("add r3, r1, r2", 0, both, 21, -4, 3);
        shadeOf("sub r3, r1, r2", 0, both, -11, -4, 3);
        shadeOf("mul r3, r1, r2", 0, both, 80, -4, 3);
        shadeOf("neg r3, r1", 0, both, -5, -4, 2);
        shadeOf("add r3, r1, 1", 0, both, 6, -4, 2);
        shadeOf("mul r3, r1, 0", 0, both, 0, -4, 2);
        shadeOf("not r3, r1", 0, both, ~5, 4, 2);
        shadeOf("mv r3, r2", 0, both, 16, 48, 3);
        shadeOf("li r3, 9", 0, both, 9, 0, 0);
        shadeOf("and r3, r1, r2", 0, new int[] {5, 4, 6, 3}, 4, 4 | 1, 3);
        shadeOf("or r3, r1, r2", 0, new int[] {5, 4, 6, 3}, 7, 2, 3);
        shadeOf("and r3, r1, 3", 0, both, 1, 0, 0);
        shadeOf("xor r3, r1, r2", 0, both, 21, 52, 3);
        shadeOf("xor r3, r2, r1", 0, both, 21, 52, 3);
        shadeOf("shl r3, r1, 2", 0, both, 20, 16, 2);
        shadeOf("shr r3, r1, 1", 0, both, 2, 2, 2);
        shadeOf("sar r3, r1, 1", 0, new int[] {-8, Integer.MIN_VALUE, 0, 0}, -4, 0xc0000000, 2);
        shadeOf("shr r3, r1, 1", 0, new int[] {-8, Integer.MIN_VALUE, 0, 0}, 0x7ffffffc, 0x40000000, 2);
        shadeOf("shl r3, r1, r2", 0, new int[] {5, 0, 1, 16}, 10, -1, 3);
        shadeOf("shl r3, r1, r2", 0, new int[] {5, 4, 1, 32}, 10, 8, 3);
        shadeOf("sxb r3, r1", 0, new int[] {0x180, 0x180, 0, 0}, -128, -128, 2);
        shadeOf("sxb r3, r1", 0, new int[] {0x180, 0x100, 0, 0}, -128, 0, 0);
        shadeOf("sxh r3, r1", 0, new int[] {0x18001, 0x8001, 0, 0}, 0xffff8001, 0xffff8001, 2);
        shadeOf("sxh r3, r1", 0, new int[] {0x18001, 0x4000, 0, 0}, 0xffff8001, 0x4000, 2);
    }

    private static void fine() {
        int[] both = {5, 4, 16, 48};
        shadeOf("add r3, r1, r2", 1, both, 21, 52, 3);
        shadeOf("add r3, r1, 3", 1, new int[] {5, 4, 0, 0}, 8, 12, 2);
        shadeOf("add r3, r1, 256", 1, new int[] {5, 4, 0, 0}, 261, 4, 2);
        shadeOf("sub r3, r1, 1", 1, new int[] {4, 4, 0, 0}, 3, -4 | 4, 2);
        shadeOf("sub r3, r1, 1", 1, new int[] {5, 4, 0, 0}, 4, 4, 2);
        shadeOf("sub r3, r1, r2", 1, new int[] {0x40, 0, 1, 1}, 0x3f, 0x7f, 3);
        shadeOf("neg r3, r1", 1, new int[] {4, 4, 0, 0}, -4, -4, 2);
        shadeOf("neg r3, r1", 1, new int[] {3, 2, 0, 0}, -3, 2, 2);
        shadeOf("mul r3, r1, 0", 1, both, 0, 0, 0);
        shadeOf("mul r3, r1, r2", 1, new int[] {0, 0, 16, 48}, 0, 0, 0);
        shadeOf("mul r3, r1, r2", 1, new int[] {0, 1, 16, 48}, 0, -1, 3);
        shadeOf("mul r3, r1, 2", 1, both, 10, -4, 2);
        shadeOf("and r3, r1, r2", 1, new int[] {5, 4, 6, 3}, 4, 4 | 1, 3);
    }

    private static void comparisons() {
        int[] near = {5, 4, 7, 2};
        int[] apart = {5, 4, 16, 32};
        for (String name : new String[] {"eq", "ne", "lt", "ltu"}) {
            int lower = name.equals("eq") ? 0 : 1;
            shadeOf(name + " r3, r1, r2", 0, near, lower, 1, 3);
            shadeOf(name + " r3, r1, r2", 0, apart, lower, 1, 3);
            shadeOf(name + " r3, r1, r2", 0, new int[] {5, 0, 7, 0}, lower, 0, 0);
            shadeOf(name + " r3, r1, r2", 1, near, lower, 1, 3);
            shadeOf(name + " r3, r1, r2", 1, apart, lower, 0, 0);
            shadeOf(name + " r3, r1, r2", 1, new int[] {5, 0, 7, 0}, lower, 0, 0);
        }
        // The LEAST of one is the MOST of the other: it is never below; below by one: it is always.
        shadeOf("ltu r3, r1, r2", 1, new int[] {7, 8, 7, 3}, 0, 0, 0);
        shadeOf("ltu r3, r1, r2", 1, new int[] {6, 8, 7, 3}, 1, 1, 3);
        shadeOf("ltu r3, r1, r2", 1, new int[] {3, 3, 4, 3}, 1, 0, 0);
        shadeOf("ltu r3, r1, r2", 1, new int[] {3, 4, 4, 3}, 1, 1, 3);
        // With a sign, what has an UNSET sign reaches from below to above.
        shadeOf("lt r3, r1, 0", 1, new int[] {5, Integer.MIN_VALUE, 0, 0}, 0, 1, 2);
        shadeOf("ltu r3, r1, 5", 1, new int[] {5, Integer.MIN_VALUE, 0, 0}, 0, 0, 0);
        shadeOf("lt r3, r1, 0", 1, new int[] {-2, 1, 0, 0}, 1, 0, 0);
        shadeOf("ltu r3, r1, 9", 1, new int[] {-2, 1, 0, 0}, 0, 0, 0);
        shadeOf("lt r3, r1, -1", 1, new int[] {-2, 1, 0, 0}, 1, 1, 2);
        // Different bits are UNSET alone: eq hangs on them; a set bit that differs settles it.
        shadeOf("eq r3, r1, 4", 1, new int[] {5, 1, 0, 0}, 0, 1, 2);
        shadeOf("eq r3, r1, 6", 1, new int[] {5, 1, 0, 0}, 0, 0, 0);
    }

    private static void origins() {
        ShadeBench x = Check.ran(FILLING, 0, "xor r6, r5, r2", "xor r5, r2, r6", "xor r2, r1, r1", "xor r1, r0, 4", "li r0, 1",
                "add r0, r0, r3", "add r3, r7, r4", "halt");
        Check.due("of a, which is greater", x.register(6, 2), 6);
        Check.due("of b, which is greater", x.register(5, 2), 6);
        Check.due("of both, alike", x.register(2, 2), 2);
        Check.due("of a alone", x.register(1, 2), 1);
        Check.due("of b alone", x.register(0, 2), 4);
        Check.due("of b, a is set", x.register(3, 2), 5);
        ShadeBench y = Check.ran(FILLING, 0, "xor r6, r1, r5", "not r0, r1", "xor r6, r1, r5", "sxh r4, r1", "halt");
        Check.due("of one operand, not of what was before", y.register(0, 2), 2);
        Check.due("of one operand, not of what was before", y.register(4, 2), 2);
    }

    private static void division() {
        shadeOf("div r3, r1, r2", 0, new int[] {80, 16, 8, 0}, 10, -1, 2);
        shadeOf("rem r3, r1, r2", 1, new int[] {81, 0, 8, 2}, 1, -1, 3);
        shadeOf("div r3, r1, r2", 1, new int[] {0, 0, 8, 2}, 0, -1, 3);
        ShadeBench x = shaded(0, 5, 1, 8, 2, "div r3, r1, r2");
        Check.report(x, "DIVISOR", 0, 4, 4, 3, 1);
        Check.due("one alone", x.state(3), 1);
        ShadeBench y = shaded(0, 5, 1, 8, 0, "rem r3, r1, r2");
        Check.due("a set DIVISOR", y.state(3), 0);
        ShadeBench z = shaded(0, 5, 1, 0, 2, "div r3, r1, r2");
        Check.report(z, "DIVISOR 0", 0, 4, 4, 3, 1);
        Check.due("DIVISOR 0: TRAP", z.state(1), 2);
        Check.register(z, "DIVISOR 0", 3, Check.filling(FILLING, 4)[3], -1, 4);
    }

    private static void stackPointer() {
        ShadeBench x = Check.ran(0, 0, "li r7, 4000", "sub r7, r7, 8", "mv r1, r7", "halt");
        Check.register(x, "r7", 7, 3992, 0, 0);
        Check.register(x, "of r7", 1, 3992, 0, 0);
        ShadeBench y = Check.ran(0, 0, "li r7, 3072", "li r7, 4096", "li r7, 5");
        Check.register(y, "r7 stays", 7, 4096, 0, 0);
        Check.due("TRAP 2", y.state(1), 3);
        ShadeBench z = Check.ran(0, 1, "and r1, r1, 4", "li r2, 4000", "or r7, r2, r1");
        Check.due("TRAP 2 of a SHADE", z.state(1), 3);
        Check.register(z, "r7 stays with it", 7, 4096, 0, 0);
    }
}
