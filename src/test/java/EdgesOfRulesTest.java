/** Each sentence of STEPS that tells what becomes of values, SHADES and ORIGINS, at the edges of 32 bits. */
public final class EdgesOfRulesTest {
    private static final int MIN = Integer.MIN_VALUE;
    private static final int MAX = Integer.MAX_VALUE;

    public static void main(String[] args) {
        numbersAreSet();
        origins();
        left();
        any();
        addAndSub();
        fineAdd();
        fineSub();
        neg();
        mul();
        bits();
        shifts();
        shiftsByUnset();
        signs();
        division();
        equals();
        below();
        belowWithSign();
        branches();
        outputs();
        inputs();
        Check.close();
    }

    /** Bits and SHADE of r1, bits and SHADE of r2. */
    private static int[] of(int... values) {
        return values;
    }

    /** A line that makes r3, in both modes. */
    private static void both(String line, int[] values, int value, int shade, int origin) {
        Check.result(line, 0, values, value, shade, origin);
        Check.result(line, 1, values, value, shade, origin);
    }

    private static void value(String name, int a, int b, int due) {
        both(name + " r3, r1, r2", of(a, 0, b, 0), due, 0, 0);
        both(name + " r3, r1, " + b, of(a, 0, 0, 0), due, 0, 0);
    }

    private static void numbersAreSet() {
        Check.sentence("p, q their SHADES (of numbers 0).");
        both("xor r3, r1, -1", of(5, 0, 0, 0), ~5, 0, 0);
        both("xor r3, r1, -1", of(5, MIN, 0, 0), ~5, MIN, 2);
        both("li r3, 4294967295", of(5, -1, 5, -1), -1, 0, 0);
        both("li r3, -2147483648", of(5, -1, 5, -1), MIN, 0, 0);
    }

    private static void origins() {
        Check.sentence("its ORIGIN is that of b if q is not 0 and (p is 0 or b's is greater), else of a if p is not 0; 0 if its SHADE is 0.");
        both("xor r3, r1, r2", of(0, 1, 0, 1), 0, 1, 3);
        both("xor r3, r2, r1", of(0, 1, 0, 1), 0, 1, 3);
        both("xor r3, r1, r1", of(0, 1, 0, 1), 0, 1, 2);
        both("xor r3, r1, r2", of(0, 0, 0, 1), 0, 1, 3);
        both("xor r3, r2, r1", of(0, 0, 0, 1), 0, 1, 3);
        both("xor r3, r1, r2", of(0, MIN, 0, 0), 0, MIN, 2);
        both("xor r3, r2, r1", of(0, MIN, 0, 0), 0, MIN, 2);
        both("xor r3, r1, r2", of(0, 0, 0, 0), 0, 0, 0);
        both("and r3, r1, r2", of(0, 2, 0, 1), 0, 0, 0);
        both("mv r3, r2", of(0, 0, 0, 1), 0, 1, 3);
        // b's SHADE alone tells its ORIGIN, also where none of its bits comes through.
        both("and r3, r1, r2", of(1, 1, 1, 2), 1, 1, 3);
    }

    private static void left() {
        Check.sentence("LEFT(x) is x | -x.");
        for (String name : new String[] {"add", "sub", "mul"}) {
            Check.result(name + " r3, r1, r2", 0, of(0, 0, 0, 0), 0, 0, 0);
            Check.result(name + " r3, r1, r2", 0, of(0, 1, 0, 0), 0, -1, 2);
            Check.result(name + " r3, r1, r2", 0, of(0, 0, 0, 1), 0, -1, 3);
            Check.result(name + " r3, r1, r2", 0, of(0, MIN, 0, 0), 0, MIN, 2);
            Check.result(name + " r3, r1, r2", 0, of(0, MIN, 0, MAX + 1), 0, MIN, 3);
            Check.result(name + " r3, r1, r2", 0, of(0, 0x40000000, 0, MIN), 0, 0xc0000000, 3);
            Check.result(name + " r3, r1, r2", 0, of(0, 0x50, 0, 0x100), 0, -16, 3);
        }
        Check.result("neg r3, r1", 0, of(0, MIN, 0, 0), 0, MIN, 2);
        Check.result("neg r3, r1", 0, of(0, 6, 0, 0), 0, -2, 2);
    }

    private static void any() {
        Check.sentence("ANY(x) is -1 if x is not 0, else 0.");
        for (String name : new String[] {"div", "rem"}) {
            both(name + " r3, r1, r2", of(0, 0, 1, 0), 0, 0, 0);
            both(name + " r3, r1, r2", of(0, MIN, 1, 0), 0, -1, 2);
            both(name + " r3, r1, r2", of(0, 0, 1, MIN), 0, -1, 3);
            both(name + " r3, r1, r2", of(0, 1, 1, 1), 0, -1, 3);
        }
    }

    private static void addAndSub() {
        Check.sentence("add, sub, neg (0, set, - a): COARSE LEFT(p | q);");
        value("add", MAX, 1, MIN);
        value("add", -1, 1, 0);
        value("add", MIN, MIN, 0);
        value("sub", MIN, 1, MAX);
        value("sub", 0, 1, -1);
        value("sub", 0, MIN, MIN);
        value("sub", MAX, -1, MIN);
    }

    private static void fineAdd() {
        Check.sentence("FINE add: ((LEAST a + LEAST b) ^ (MOST a + MOST b)) | p | q;");
        // A carry through all bits; none; one that is lost at the highest.
        Check.result("add r3, r1, 1", 1, of(-1, 1, 0, 0), 0, -1, 2);
        Check.result("add r3, r1, 1", 1, of(-2, 1, 0, 0), -1, -1, 2);
        Check.result("add r3, r1, 256", 1, of(4, 1, 0, 0), 260, 1, 2);
        Check.result("add r3, r1, r2", 1, of(MIN, MIN, MIN, MIN), 0, MIN, 3);
        Check.result("add r3, r1, r2", 1, of(MIN, MIN, MIN, 0), 0, MIN, 2);
        Check.result("add r3, r1, r2", 1, of(1, 1, 1, 1), 2, 3, 3);
        Check.result("add r3, r1, r2", 1, of(0, 0, 0, 0), 0, 0, 0);
        Check.result("add r3, r1, r2", 1, of(0, -1, 0, -1), 0, -1, 3);
        Check.result("add r3, r1, r2", 1, of(7, 0, 0, 8), 7, 8, 3);
        Check.result("add r3, r1, r2", 1, of(8, 0, 0, 8), 8, 24, 3);
    }

    private static void fineSub() {
        Check.sentence("sub: ((LEAST a - MOST b) ^ (MOST a - LEAST b)) | p | q.");
        Check.result("sub r3, r1, 1", 1, of(0, 1, 0, 0), -1, -1, 2);
        Check.result("sub r3, r1, 1", 1, of(5, 4, 0, 0), 4, 4, 2);
        Check.result("sub r3, r1, r2", 1, of(0, 0, 0, 1), 0, -1, 3);
        Check.result("sub r3, r1, r2", 1, of(MIN, 0, 1, 2), MAX, 2, 3);
        Check.result("sub r3, r1, r2", 1, of(MIN, 0, 0, 1), MIN, -1, 3);
        Check.result("sub r3, r1, r2", 1, of(0, MIN, 0, MIN), 0, MIN, 3);
        Check.result("sub r3, r1, r2", 1, of(0, 1, 0, 1), 0, -1, 3);
        Check.result("sub r3, r1, r1", 1, of(3, 1, 0, 0), 0, -1, 2);
        Check.result("sub r3, r1, r2", 1, of(0, 0, 0, 0), 0, 0, 0);
    }

    private static void neg() {
        Check.sentence("neg (0, set, - a)");
        both("neg r3, r1", of(0, 0, 0, 0), 0, 0, 0);
        both("neg r3, r1", of(MIN, 0, 0, 0), MIN, 0, 0);
        both("neg r3, r1", of(MAX, 0, 0, 0), -MAX, 0, 0);
        both("neg r3, r1", of(MIN, MIN, 0, 0), MIN, MIN, 2);
        Check.result("neg r3, r1", 1, of(0, 1, 0, 0), 0, -1, 2);
        Check.result("neg r3, r1", 1, of(1, 1, 0, 0), -1, -1, 2);
        Check.result("neg r3, r1", 1, of(3, 2, 0, 0), -3, 2, 2);
        Check.result("neg r3, r1", 0, of(3, 2, 0, 0), -3, -2, 2);
    }

    private static void mul() {
        Check.sentence("mul: LEFT(p | q); FINE: 0, if one of both is set and 0.");
        value("mul", 65536, 65536, 0);
        value("mul", MIN, -1, MIN);
        value("mul", MAX, 2, -2);
        value("mul", -1, -1, 1);
        int[][] zeros = {of(0, 0, 5, 4), of(5, 4, 0, 0), of(0, 0, 0, 1), of(0, 1, 0, 0)};
        for (int[] values : zeros) {
            Check.result("mul r3, r1, r2", 1, values, 0, 0, 0);
        }
        Check.result("mul r3, r1, 0", 1, of(5, -1, 0, 0), 0, 0, 0);
        Check.result("mul r3, r1, 0", 0, of(5, 4, 0, 0), 0, -4, 2);
        Check.result("mul r3, r1, r2", 0, of(0, 0, 5, 4), 0, -4, 3);
        // 0, but not set; set, but not 0.
        both("mul r3, r1, r2", of(0, 1, 0, 2), 0, -1, 3);
        both("mul r3, r1, r2", of(0, MIN, 1, 0), 0, MIN, 2);
        both("mul r3, r1, 1", of(0, 8, 0, 0), 0, -8, 2);
        both("mul r3, r1, r2", of(MIN, 0, 0, 2), 0, -2, 3);
    }

    private static void bits() {
        Check.sentence("and: (p | q) & (a | p) & (b | q). or: (p | q) & (~a | p) & (~b | q). xor: p | q. not, mv: p. li: 0.");
        // All sixteen ways in which a, p, b and q can stand at a bit, twice.
        int a = 0xaaaaaaaa;
        int p = 0xcccccccc;
        int b = 0xf0f0f0f0;
        int q = 0xff00ff00;
        int[] values = of(a, p, b, q);
        int and = 0;
        int or = 0;
        for (int i = 0; i < 32; i++) {
            boolean mayBe0A = (p >>> i & 1) == 1 || (a >>> i & 1) == 0;
            boolean mayBe1A = (p >>> i & 1) == 1 || (a >>> i & 1) == 1;
            boolean mayBe0B = (q >>> i & 1) == 1 || (b >>> i & 1) == 0;
            boolean mayBe1B = (q >>> i & 1) == 1 || (b >>> i & 1) == 1;
            and |= (mayBe0A || mayBe0B) && mayBe1A && mayBe1B ? 1 << i : 0;
            or |= (mayBe1A || mayBe1B) && mayBe0A && mayBe0B ? 1 << i : 0;
        }
        both("and r3, r1, r2", values, a & b, and, 3);
        both("or r3, r1, r2", values, a | b, or, 3);
        both("xor r3, r1, r2", values, a ^ b, p | q, 3);
        both("not r3, r1", values, ~a, p, 2);
        both("mv r3, r1", values, a, p, 2);
        both("li r3, 5", values, 5, 0, 0);
        both("and r3, r1, 0", of(5, -1, 0, 0), 0, 0, 0);
        both("or r3, r1, -1", of(5, -1, 0, 0), -1, 0, 0);
        both("and r3, r1, -1", of(5, -1, 0, 0), 5, -1, 2);
        both("or r3, r1, 0", of(5, -1, 0, 0), 5, -1, 2);
        both("xor r3, r1, r1", of(5, -1, 0, 0), 0, -1, 2);
        both("mv r3, r1", of(5, 0, 0, 0), 5, 0, 0);
    }

    private static void shifts() {
        Check.sentence("shl, shr, sar (by the lowest 5 bits of b):");
        int a = 0x80000101;
        int[] by = {0, 1, 31, 32, 33, 63, -1, -32, MIN};
        int[] low = {0, 1, 31, 0, 1, 31, 31, 0, 0};
        for (int i = 0; i < by.length; i++) {
            value("shl", a, by[i], (int) ((long) a << low[i]));
            value("shr", a, by[i], (int) ((a & 0xffffffffL) >> low[i]));
            value("sar", a, by[i], (int) ((long) a >> low[i]));
            // SHADES go in the same way.
            int p = 0x80000003;
            origin("shl", by[i], (int) ((long) p << low[i]));
            origin("shr", by[i], (int) ((p & 0xffffffffL) >> low[i]));
            origin("sar", by[i], (int) ((long) p >> low[i]));
        }
        both("shl r3, r1, 1", of(0, MIN, 0, 0), 0, 0, 0);
        both("shr r3, r1, 1", of(0, 1, 0, 0), 0, 0, 0);
    }

    private static void origin(String name, int by, int shade) {
        both(name + " r3, r1, " + by, of(0, 0x80000003, 0, 0), 0, shade, shade == 0 ? 0 : 2);
    }

    private static void shiftsByUnset() {
        Check.sentence("if q has one of these, ANY(1), else p shifted in the same way.");
        for (String name : new String[] {"shl", "shr", "sar"}) {
            for (int i = 0; i < 5; i++) {
                both(name + " r3, r1, r2", of(0, 0, 0, 1 << i), 0, -1, 3);
            }
            both(name + " r3, r1, r2", of(0, 4, 0, 0x20), 0, 4, 3);
            both(name + " r3, r1, r2", of(0, 4, 0, MIN), 0, 4, 3);
            both(name + " r3, r1, r2", of(0, 0, 0, -32), 0, 0, 0);
            both(name + " r3, r1, r2", of(0, 4, 0, -1), 0, -1, 3);
            both(name + " r3, r2, r1", of(1, 1, 0, 0), 0, -1, 2);
        }
    }

    private static void signs() {
        Check.sentence("sxb, sxh: the lowest 8 or 16 bits with the highest of them as sign; SHADES likewise.");
        int[][] bytes = {{0, 0}, {0x7f, 0x7f}, {0x80, -128}, {0xff, -1}, {0x100, 0}, {0x17f, 0x7f}, {-1, -1}, {MIN, 0}, {-129, 0x7f}};
        for (int[] one : bytes) {
            both("sxb r3, r1", of(one[0], 0, 0, 0), one[1], 0, 0);
            both("sxb r3, r1", of(0, one[0], 0, 0), 0, one[1], one[1] == 0 ? 0 : 2);
        }
        int[][] halves = {{0, 0}, {0x7fff, 0x7fff}, {0x8000, -32768}, {0xffff, -1}, {0x10000, 0}, {0x17fff, 0x7fff}, {-1, -1}, {MIN, 0},
            {0x80, 0x80}};
        for (int[] one : halves) {
            both("sxh r3, r1", of(one[0], 0, 0, 0), one[1], 0, 0);
            both("sxh r3, r1", of(0, one[0], 0, 0), 0, one[1], one[1] == 0 ? 0 : 2);
        }
    }

    private static void division() {
        Check.sentence("div, rem (as of ints; the least one by -1: itself, 0): DIVISOR is reported if q is not 0; b is 0: TRAP 1; SHADE ANY(p | q).");
        int[][] whole = {{7, 2, 3, 1}, {-7, 2, -3, -1}, {7, -2, -3, 1}, {-7, -2, 3, -1}, {MIN, -1, MIN, 0}, {MIN, 1, MIN, 0},
            {MIN, MIN, 1, 0}, {MAX, MIN, 0, MAX}, {MIN, MAX, -1, -1}, {0, 5, 0, 0}, {5, 1, 5, 0}};
        for (int[] one : whole) {
            value("div", one[0], one[1], one[2]);
            value("rem", one[0], one[1], one[3]);
        }
        for (String name : new String[] {"div", "rem"}) {
            ShadeBench x = Check.shaded(0, of(5, 4, 3, 0), name + " r3, r1, r2");
            Check.due(name + ": a set DIVISOR", x.state(4), 0);
            ShadeBench y = Check.shaded(1, of(5, 0, 3, MIN), name + " r3, r1, r2");
            Check.report(y, name + ": a DIVISOR with a SHADE", 0, 4, 4, 3, 1);
            Check.due(name + ": one report", y.state(4), 1);
            Check.due(name + ": it goes on", y.state(1), 1);
            trapOfDivisor(name + " r3, r1, r2", 0);
            trapOfDivisor(name + " r3, r1, r2", 1);
            trapOfDivisor(name + " r3, r1, 0", 0);
            trapOfDivisor(name + " r7, r1, 0", 0);
        }
    }

    private static void trapOfDivisor(String line, int shade) {
        ShadeBench x = Check.shaded(1, of(5, 0, 0, shade), line);
        Check.due(line + " of 0: state(1)", x.state(1), 2);
        Check.due(line + " of 0: state(0)", x.state(0), 4);
        Check.due(line + " of 0: reports", x.state(4), shade);
        Check.register(x, line + " of 0", 3, Check.filling(Check.SHADED_FILLING, 4)[3], -1, 4);
    }

    private static void equals() {
        Check.sentence("eq, ne (1 or 0): SHADE 1 if p | q is not 0, but FINE: 0 if (a ^ b) & ~(p | q) is not 0.");
        for (int[] one : new int[][] {{0, 0}, {MIN, MIN}, {MIN, 0}, {0, 1}, {-1, MAX}}) {
            value("eq", one[0], one[1], one[0] == one[1] ? 1 : 0);
            value("ne", one[0], one[1], one[0] == one[1] ? 0 : 1);
        }
        for (String name : new String[] {"eq", "ne"}) {
            int same = name.equals("eq") ? 1 : 0;
            String line = name + " r3, r1, r2";
            both(line, of(5, MIN, 5, 0), same, 1, 2);
            both(line, of(5, 1, 4, 0), 1 - same, 1, 2);
            both(line, of(5, 0, 4, 1), 1 - same, 1, 3);
            both(line, of(0, -1, 0, -1), same, 1, 3);
            Check.result(line, 0, of(MIN, 1, 0, 0), 1 - same, 1, 2);
            Check.result(line, 1, of(MIN, 1, 0, 0), 1 - same, 0, 0);
            Check.result(line, 1, of(1, 0, 0, MIN), 1 - same, 0, 0);
            Check.result(line, 1, of(1, 2, 0, 4), 1 - same, 0, 0);
        }
    }

    private static void below() {
        Check.sentence("lt (with sign), ltu: SHADE 1 if p | q is not 0, but FINE: 0, if the LEAST of one is not below the MOST of the other (so that a < b is false), or the MOST of a is below the LEAST of b;");
        int[][] pairs = {{0, 0}, {0, 1}, {1, 0}, {-1, 0}, {0, -1}, {MIN, MAX}, {MAX, MIN}, {MAX, -1}, {MIN, MIN}};
        for (int[] one : pairs) {
            value("lt", one[0], one[1], one[0] < one[1] ? 1 : 0);
            value("ltu", one[0], one[1], (one[0] & 0xffffffffL) < (one[1] & 0xffffffffL) ? 1 : 0);
        }
        for (String name : new String[] {"lt", "ltu"}) {
            String line = name + " r3, r1, r2";
            Check.result(line, 0, of(0, 1, 100, 0), 1, 1, 2);
            Check.result(line, 0, of(100, 0, 0, 1), 0, 1, 3);
            // a is 4 or 5: b 4 is never above it, 5 may be, 6 is.
            Check.result(line, 1, of(4, 1, 4, 0), 0, 0, 0);
            Check.result(line, 1, of(4, 1, 5, 0), 1, 1, 2);
            Check.result(line, 1, of(4, 1, 6, 0), 1, 0, 0);
            // b is 4 or 5: a 3 is below it, 4 may be, 5 never is.
            Check.result(line, 1, of(3, 0, 4, 1), 1, 0, 0);
            Check.result(line, 1, of(4, 0, 4, 1), 0, 1, 3);
            Check.result(line, 1, of(5, 0, 4, 1), 0, 0, 0);
            Check.result(line, 1, of(6, 1, 4, 2), 0, 0, 0);
            Check.result(line, 1, of(6, 1, 4, 3), 0, 1, 3);
            Check.result(line, 1, of(6, 1, 4, 1), 0, 0, 0);
            Check.result(line, 1, of(4, 1, 6, 1), 1, 0, 0);
        }
        Check.result("ltu r3, r1, 0", 1, of(5, -1, 0, 0), 0, 0, 0);
        Check.result("ltu r3, r1, -1", 1, of(5, -1, 0, 0), 1, 1, 2);
        Check.result("ltu r3, r1, r2", 1, of(-1, 0, 5, -1), 0, 0, 0);
        Check.result("ltu r3, r1, r2", 1, of(0, 0, 5, -1), 1, 1, 3);
    }

    private static void belowWithSign() {
        Check.sentence("with sign LEAST and MOST are by the highest bit turned round.");
        Check.result("lt r3, r1, -2147483648", 1, of(5, -1, 0, 0), 0, 0, 0);
        Check.result("lt r3, r1, -2147483647", 1, of(5, -1, 0, 0), 0, 1, 2);
        Check.result("lt r3, r1, 2147483647", 1, of(5, -1, 0, 0), 1, 1, 2);
        Check.result("lt r3, r1, r2", 1, of(MAX, 0, 5, -1), 0, 0, 0);
        Check.result("lt r3, r1, r2", 1, of(MIN, 0, 5, -1), 1, 1, 3);
        // Its sign is UNSET: 5, or 5 from the least on.
        Check.result("lt r3, r1, 0", 1, of(5, MIN, 0, 0), 0, 1, 2);
        Check.result("lt r3, r1, 6", 1, of(5, MIN, 0, 0), 1, 0, 0);
        Check.result("lt r3, r1, 5", 1, of(5, MIN, 0, 0), 0, 1, 2);
        Check.result("lt r3, r1, -2147483643", 1, of(5, MIN, 0, 0), 0, 0, 0);
        Check.result("ltu r3, r1, 5", 1, of(5, MIN, 0, 0), 0, 0, 0);
        Check.result("ltu r3, r1, 6", 1, of(5, MIN, 0, 0), 1, 1, 2);
        // -2 or -1.
        Check.result("lt r3, r1, 0", 1, of(-2, 1, 0, 0), 1, 0, 0);
        Check.result("lt r3, r1, -1", 1, of(-2, 1, 0, 0), 1, 1, 2);
        Check.result("lt r3, r1, -2", 1, of(-2, 1, 0, 0), 0, 0, 0);
    }

    private static void branch(String line, int mode, int[] values, boolean taken, int origin) {
        ShadeBench x = Check.shaded(mode, values, line + ", l\nhalt\nl: halt");
        String name = line + " in mode " + mode;
        Check.due(name + ": taken", x.state(0), taken ? 6 : 5);
        Check.due(name + ": THE MARK", x.state(8), 7 * 31 + (taken ? 1 : 2));
        Check.due(name + ": reports", x.state(4), origin == 0 ? 0 : 1);
        if (origin != 0) {
            Check.report(x, name, 0, 1, 4, origin, 1);
        }
    }

    private static void branches() {
        Check.sentence("CONDITION is reported if the SHADE that eq, lt, ltu of both would have is not 0; then it goes as the values say.");
        String[] names = {"beq", "bne", "blt", "bge", "bltu", "bgeu"};
        // r1 is 5 (4 or 5), r2 is 5; then 6; then r1 is the least, or -1.
        boolean[][] taken = {{true, false, false, true, false, true}, {false, true, true, false, true, false},
            {false, true, true, false, false, true}};
        int[][] values = {{5, 1, 5, 0}, {5, 1, 6, 0}, {-1, MAX, 5, 0}};
        int[][] fine = {{2, 2, 2, 2, 2, 2}, {0, 0, 0, 0, 0, 0}, {0, 0, 0, 0, 0, 0}};
        for (int i = 0; i < values.length; i++) {
            for (int k = 0; k < names.length; k++) {
                branch(names[k] + " r1, r2", 0, values[i], taken[i][k], 2);
                branch(names[k] + " r1, " + values[i][2], 0, values[i], taken[i][k], 2);
                branch(names[k] + " r1, r2", 1, values[i], taken[i][k], fine[i][k]);
                branch(names[k] + " r1, r2", 0, of(values[i][0], 0, values[i][2], 0), taken[i][k], 0);
            }
        }
        branch("bltu r1, 0", 1, of(5, -1, 0, 0), false, 0);
        branch("bgeu r1, 0", 1, of(5, -1, 0, 0), true, 0);
        branch("blt r1, -2147483648", 1, of(5, -1, 0, 0), false, 0);
        branch("bge r1, -2147483648", 1, of(5, -1, 0, 0), true, 0);
        branch("blt r1, 0", 1, of(5, -1, 0, 0), false, 2);
        branch("beq r2, r1", 0, of(5, -1, 5, -1), true, 3);
        branch("beq r1, r2", 0, of(5, 0, 5, MIN), true, 3);
    }

    private static void outputs() {
        Check.sentence("out: OUTPUT is reported if p is not 0; the value is put out.");
        for (int shade : new int[] {0, 1, MIN, -1}) {
            ShadeBench x = Check.shaded(1, of(MIN, shade, 0, 0), "out r1");
            Check.due("SHADE " + shade + ": put out", x.output(0), MIN);
            Check.due("SHADE " + shade + ": how many", x.state(6), 1);
            Check.due("SHADE " + shade + ": reports", x.state(4), shade == 0 ? 0 : 1);
            Check.due("SHADE " + shade + ": KIND", x.report(0, 0), shade == 0 ? Check.NONE : 3);
        }
    }

    private static void inputs() {
        Check.sentence("in: the next INPUT, set; -1 without.");
        ShadeBench x = Check.bench(0, 0, "in r0", "in r1", "in r2", "in r3", "halt");
        x.input(MIN);
        x.input(0);
        x.run(3);
        Check.register(x, "the first", 0, MIN, 0, 0);
        Check.register(x, "the second", 1, 0, 0, 0);
        Check.register(x, "none", 2, -1, 0, 0);
        Check.due("a third", x.input(9), 3);
        x.run(1);
        Check.register(x, "the third", 3, 9, 0, 0);
        ShadeBench y = Check.bench(0, 0, "in r7", "halt");
        y.input(4000);
        y.run(2);
        Check.register(y, "in r7", 7, 4000, 0, 0);
        ShadeBench z = Check.ran(0, 0, "in r7", "halt");
        Check.due("in r7 without: TRAP 2", z.state(1), 3);
    }
}
