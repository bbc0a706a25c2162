/** Promise 4: assemble. */
public final class AssembleTest {
    public static void main(String[] args) {
        everyInstruction();
        linesAndBlanks();
        numbers();
        words();
        labels();
        begins();
        programBeforeStays();
        nothingOfOlderTexts();
        limits();
        Check.close();
    }

    private static int count(String text) {
        return Check.count(text);
    }

    private static void everyInstruction() {
        String[] lines = {"li r0, 1", "mv r0, r1", "not r0, r1", "neg r0, r1", "sxb r0, r1", "sxh r0, r1", "ret", "halt",
            "jmp l", "call l", "push r1", "pop r1", "free r1", "in r1", "out r1", "new r1, r2", "new r1, 2", "zero r1, 2",
            "zero r1, r2", "mark r1, 2, 3", "mark r1, r2, 3"};
        StringBuilder text = new StringBuilder("l:");
        int due = 0;
        for (String line : lines) {
            text.append(line).append('\n');
            due++;
        }
        String three = "add sub mul div rem and or xor shl shr sar eq ne lt ltu grow copy fill look";
        for (String name : three.split(" ")) {
            text.append(name).append(" r1,r2,r3\n").append(name).append(" r1,r2,-3\n");
            due += 2;
        }
        for (String name : "lb lbu lh lhu lw sb sh sw".split(" ")) {
            text.append(name).append(" r1, r2, 0x10\n");
            due++;
        }
        for (String name : "beq bne blt bge bltu bgeu".split(" ")) {
            text.append(name).append(" r1, r2, l\n").append(name).append(" r1, 2, l\n");
            due += 2;
        }
        Check.due("every instruction", count(text.toString()), due);
    }

    private static void linesAndBlanks() {
        Check.due("no text", count(""), 0);
        Check.due("an empty line", count("\n"), 0);
        Check.due("blanks and comments", count("   \n;halt\n  ; \t\r\377 halt\nhalt;halt\n"), 1);
        Check.due("no 10 at the end", count("halt\nhalt"), 2);
        Check.due("no blanks", count("a:li r1,5\nb :add r1,r1,r2;"), 2);
        Check.due("many blanks", count("  a  :  li   r1  ,  5  "), 1);
    }

    private static void numbers() {
        String[] texts = {"0", "-0", "5", "-5", "2147483648", "4294967295", "-2147483648", "0000000012", "0x0", "0xff",
            "0xabcdef09", "0x00000001"};
        int[] values = {0, 0, 5, -5, Integer.MIN_VALUE, -1, Integer.MIN_VALUE, 12, 0, 255, 0xabcdef09, 1};
        for (int i = 0; i < texts.length; i++) {
            ShadeBench x = Check.ran(0, 0, "li r1, " + texts[i]);
            Check.register(x, texts[i], 1, values[i], 0, 0);
        }
    }

    private static void words() {
        Check.due("r8 is a label", count("r8: jmp r8"), 1);
        Check.due("a word of eight", count("abcdefg8: jmp abcdefg8"), 1);
        Check.due("a word that begins as an instruction", count("lit: jmp lit"), 1);
        Check.due("words that end alike", count("xxadd: jmp xxadd\nadd r1, r1, r1\na: jmp a\nr: jmp r\nr01: jmp r01"), 5);
    }

    private static void labels() {
        ShadeBench x = Check.ran(0, 0, "jmp b", "a: li r1, 1", "jmp c", "b:", "d: jmp a", "c:");
        Check.due("state(0) at the END", x.state(0), 4);
        Check.due("state(1) at the END", x.state(1), 1);
        Check.due("steps to the END", x.state(2), 4);
        Check.due("register(1, 0)", x.register(1, 0), 1);
        Check.due("a label at the END alone", count("a:"), 0);
    }

    private static void begins() {
        ShadeBench x = new ShadeBench();
        Check.feed(x, "add r1, r0, r0\nhalt");
        Check.due("assemble()", x.assemble(), 2);
        Check.due("state(0)", x.state(0), 0);
        Check.due("state(1)", x.state(1), 0);
        Check.due("the FILLING is 0", x.register(0, 0), Check.filling(0, 1)[0]);
        x.input(4);
        x.suppress(0, 0, 9);
        x.begin(9, 1);
        x.run(1);
        Check.feed(x, "and r1, r1, 1\nadd r1, r1, 0\nout r0\nin r2");
        Check.due("assemble() anew", x.assemble(), 4);
        Check.due("the FILLING is 0 again", x.register(0, 0), Check.filling(0, 1)[0]);
        Check.due("no STEPS", x.state(2), 0);
        x.run(4);
        Check.due("the MODE is 0 again", x.register(1, 1), -1);
        Check.due("no suppressions", x.state(4), 1);
        Check.due("nothing is suppressed", x.state(5), 0);
        Check.due("no INPUT", x.register(2, 0), -1);
        Check.due("first of INPUT", x.input(1), 1);
        Check.due("first suppression", x.suppress(1, 1, 1), 1);
        Check.feed(x, "");
        Check.due("assemble() of an empty tape", x.assemble(), 0);
        Check.due("halted as it BEGINS", x.state(1), 1);
        Check.due("run(5) of nothing", x.run(5), 0);
    }

    private static void programBeforeStays() {
        ShadeBench x = Check.bench(7, 1, "in r1", "in r2", "out r0", "halt");
        x.input(11);
        x.input(12);
        x.suppress(3, 0, 5);
        x.run(1);
        Check.feed(x, "li r1, 1\nfoo");
        Check.due("assemble() with a fault", x.assemble(), Check.NONE);
        Check.due("the tape is empty", x.end(1), Check.NONE);
        Check.due("STEPS stay", x.state(2), 1);
        Check.due("the place stays", x.state(0), 1);
        x.run(3);
        Check.due("INPUT stays", x.register(2, 0), 12);
        Check.due("suppressions stay", x.state(5), 1);
        Check.due("INPUT counts on", x.input(13), 3);
        Check.due("suppressions count on", x.suppress(3, 0, 5), 2);
        Check.due("the FILLING stays", x.output(0), Check.filling(7, 1)[0]);
    }

    private static void nothingOfOlderTexts() {
        ShadeBench x = new ShadeBench();
        for (int i = 0; i < 4; i++) {
            Check.feed(x, "a: xor r1, r2, 6\nb: xor r3, r4, r6\njmp a");
            Check.due("the same labels " + i, x.assemble(), 3);
            Check.due("first of INPUT " + i, x.input(9), 1);
            Check.due("second of INPUT " + i, x.input(9), 2);
        }
        Check.feed(x, "halt\njmp a");
        Check.due("a label of an older text", x.assemble(), Check.NONE);
        Check.due("its fault", x.fault(0), 4);
        Check.due("its line", x.fault(2), 2);
        Check.feed(x, "xor r1, r2, r6\nnot r3, r4\nin r5\nhalt");
        Check.due("registers where numbers were", x.assemble(), 4);
        x.run(9);
        int[] f = Check.filling(0, 7);
        Check.register(x, "xor", 1, f[2] ^ f[6], -1, 7);
        Check.register(x, "not", 3, ~f[4], -1, 5);
        Check.register(x, "in", 5, -1, 0, 0);
    }

    private static void limits() {
        Check.due("200 lines", count("halt\n".repeat(200)), 200);
        Check.due("200 lines, the last without a 10", count("\n".repeat(199) + "halt"), 1);
        Check.due("3000 bytes", count("halt\n" + ";".repeat(2995)), 1);
    }
}
