import java.util.Random;

/** All promises: no call throws or fails to end, whatever comes, and what always holds does hold. */
public final class FuzzTest {
    private static final String NAMES = "li mv not neg add sub mul div rem and or xor shl shr sar eq ne lt ltu sxb sxh lb lbu"
            + " lh lhu lw sb sh sw beq bne blt bge bltu bgeu jmp call ret halt push pop new zero grow free copy fill in out"
            + " mark look";
    private static final int[] NUMBERS = {0, 1, -1, 2, 4, 7, 8, 31, 32, 100, 255, 256, 257, 300, 511, 512, 513, 1024, 1032, 3071,
        3072, 4000, 4092, 4095, 4096, 4097, 20000, 20001, Integer.MIN_VALUE, Integer.MAX_VALUE};

    private final Random random = new Random(20261116);

    public static void main(String[] args) {
        FuzzTest fuzz = new FuzzTest();
        for (int i = 0; i < 1000; i++) {
            fuzz.anyBytes();
            fuzz.anyProgram();
        }
        Check.close();
    }

    private int number() {
        return random.nextInt(4) == 0 ? random.nextInt() : NUMBERS[random.nextInt(NUMBERS.length)];
    }

    private void anyCall(ShadeBench x) {
        switch (random.nextInt(15)) {
            case 0: x.feed(number(), number(), number(), number(), number()); break;
            case 1: x.end(number()); break;
            case 2: x.assemble(); break;
            case 3: x.fault(number()); break;
            case 4: x.begin(number(), random.nextInt(3)); break;
            case 5: x.input(number()); break;
            case 6: x.suppress(random.nextInt(9), number(), number()); break;
            case 7: x.run(number()); break;
            case 8: x.state(number()); break;
            case 9: x.register(number(), random.nextInt(4)); break;
            case 10: x.memory(number(), random.nextInt(5)); break;
            case 11: x.report(number(), random.nextInt(5)); break;
            case 12: x.output(number()); break;
            case 13: x.block(number(), random.nextInt(7)); break;
            default: x.twin(number()); break;
        }
    }

    private void anyBytes() {
        ShadeBench x = new ShadeBench();
        String some = " ,:;\n-0129xafzlirZ$\t\0\377";
        byte[] bytes = new byte[random.nextInt(200)];
        for (int i = 0; i < bytes.length; i++) {
            bytes[i] = (byte) some.charAt(random.nextInt(some.length()));
        }
        Check.feed(x, bytes);
        int count = x.assemble();
        Check.due("a fault or a program", count == Check.NONE, x.fault(0) != 0);
        Check.due("a place with a fault", x.fault(1) >= 0 && x.fault(1) <= bytes.length, x.fault(0) != 0);
        for (int i = 0; i < 200; i++) {
            anyCall(x);
        }
    }

    private String shape(String name) {
        switch (name) {
            case "li": return "RN";
            case "mv": case "not": case "neg": case "sxb": case "sxh": return "RR";
            case "lb": case "lbu": case "lh": case "lhu": case "lw": case "sb": case "sh": case "sw": return "RRN";
            case "beq": case "bne": case "blt": case "bge": case "bltu": case "bgeu": return "RXL";
            case "jmp": case "call": return "L";
            case "ret": case "halt": return "";
            case "push": case "pop": case "free": case "in": case "out": return "R";
            case "new": case "zero": return "RX";
            case "mark": return "RXN";
            default: return "RRX";
        }
    }

    private String line(int lines) {
        String[] names = NAMES.split(" ");
        String name = names[random.nextInt(names.length)];
        StringBuilder line = new StringBuilder(name);
        String between = " ";
        for (char c : shape(name).toCharArray()) {
            line.append(between);
            if (c == 'R' || c == 'X' && random.nextBoolean()) {
                line.append('r').append(random.nextInt(8));
            } else if (c == 'L') {
                line.append('l').append(random.nextInt(lines));
            } else {
                line.append(name.equals("mark") && c == 'N' ? random.nextInt(3) : number());
            }
            between = ", ";
        }
        return line.toString();
    }

    private void anyProgram() {
        int lines = 1 + random.nextInt(60);
        StringBuilder text = new StringBuilder();
        for (int i = 0; i < lines; i++) {
            text.append('l').append(i).append(": ").append(line(lines)).append('\n');
        }
        ShadeBench x = new ShadeBench();
        Check.feed(x, text.toString());
        Check.due("assemble() of " + text, x.assemble(), lines);
        int filling = random.nextInt();
        for (int i = random.nextInt(4); i > 0; i--) {
            x.input(number());
        }
        x.begin(filling, random.nextInt(2));
        for (int i = random.nextInt(4); i >= 0; i--) {
            x.run(random.nextInt(200));
        }
        whatAlwaysHolds(x, text.toString());
        Check.due("the twin by the same FILLING of " + text, x.twin(filling), x.state(8));
        for (int i = 0; i < 150; i++) {
            anyCall(x);
        }
    }

    private void whatAlwaysHolds(ShadeBench x, String text) {
        for (int r = 0; r < 8; r++) {
            if (x.register(r, 1) == 0) {
                Check.due("the ORIGIN of what is set: " + text, x.register(r, 2), 0);
            }
        }
        int pointer = x.register(7, 0);
        Check.due("r7 is set: " + text, x.register(7, 1), 0);
        Check.due("r7 is in the STACK: " + text, pointer >= 3072 && pointer <= 4096, true);
        int counted = 0;
        int kept = x.state(3);
        for (int k = 0; k < kept; k++) {
            counted += x.report(k, 3);
        }
        Check.due("COUNTS: " + text, kept == 60 || counted == x.state(4), true);
        Check.due("QUIET: " + text, x.state(9) == 1, x.state(4) == 0);
        // An object is promised 512 calls alone, so not all blocks can be asked for.
        int made = Math.min(x.state(7), 30);
        for (int n = 1; n <= made; n++) {
            Check.due("LEAKS: " + text, x.block(n, 5) != Check.NONE, x.block(n, 2) == 2);
            Check.due("freed by: " + text, x.block(n, 4) == Check.NONE, x.block(n, 2) == 2);
        }
    }
}
