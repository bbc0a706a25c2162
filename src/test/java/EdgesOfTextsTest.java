/** Each sentence of TEXTS that tells an edge: how long, how many, what stands next to what, which FAULT comes first. */
public final class EdgesOfTextsTest {
    private static final String[] NAMES = ("li mv not neg add sub mul div rem and or xor shl shr sar eq ne lt ltu sxb sxh lb lbu lh"
            + " lhu lw sb sh sw beq bne blt bge bltu bgeu jmp call ret halt push pop new zero grow free copy fill in out mark"
            + " look").split(" ");

    public static void main(String[] args) {
        bytesOfAText();
        linesOfAText();
        whatALineIs();
        blanks();
        comments();
        words();
        labels();
        decimals();
        hexadecimals();
        operands();
        commas();
        firstFault();
        noNumber();
        noByteNoWord();
        lineEnds();
        behindAWord();
        toldAlready();
        toldNowhere();
        tooLong();
        places();
        theEnd();
        Check.close();
    }

    private static void count(String text, int due) {
        Check.due("assemble() of " + (text.length() > 60 ? text.length() + " bytes" : text.replace("\n", "\\n")), Check.count(text), due);
    }

    private static void bytesOfAText() {
        Check.sentence("A TEXT has at most 3,000 bytes:");
        count("", 0);
        count("halt\n" + ";".repeat(2995), 1);
        count(" ".repeat(2996) + "halt", 1);
        count(" ".repeat(2995) + "halt\n", 1);
        Check.fault(" ".repeat(2997) + "halt", 5, 3000, 1);
        Check.fault(" ".repeat(2996) + "halt\n", 5, 3000, 1);
    }

    private static void linesOfAText() {
        Check.sentence("LINES that end with a byte 10 (the last one with the text; none behind a last 10), numbered from 1 on; at most 200 of them.");
        count("halt\nhalt", 2);
        count("halt\nhalt\n", 2);
        count("\n", 0);
        count("\n\nhalt\n\n", 1);
        count("halt\n".repeat(200), 200);
        count("halt\n".repeat(199) + "halt", 200);
        count("\n".repeat(200), 0);
        Check.fault("\n".repeat(201), 5, 200, 201);
        Check.fault("halt\n".repeat(200) + "halt", 5, 1000, 201);
        Check.fault("$", 1, 0, 1);
        Check.fault("\n$", 1, 1, 2);
        Check.fault("\n".repeat(199) + "$", 1, 199, 200);
        Check.fault("\n".repeat(199) + "$\n", 1, 199, 200);
    }

    private static void whatALineIs() {
        Check.sentence("A line: [LABEL :] [instruction];");
        count("a:", 0);
        count("halt", 1);
        count("a: halt", 1);
        count("a:\n\nb: halt\nc:", 1);
        Check.fault(":", 2, 0, 1);
        Check.fault(": halt", 2, 0, 1);
        Check.fault("a:: halt", 2, 2, 1);
        Check.fault("a: b: halt", 2, 3, 1);
        Check.fault("a: halt b:", 2, 8, 1);
        Check.fault("halt halt", 2, 5, 1);
        Check.fault("halt a:", 2, 5, 1);
        Check.fault("5", 2, 0, 1);
        Check.fault(",", 2, 0, 1);
        Check.fault("a: 5", 2, 3, 1);
        Check.fault("a: ,", 2, 3, 1);
        Check.fault("a: r1", 2, 3, 1);
    }

    private static void blanks() {
        Check.sentence("blanks (32) part words, or not;");
        count("   ", 0);
        count("  a  :  li   r1  ,  5  ", 1);
        count("a:li r1,5", 1);
        count("a:add r1,r2,r3", 1);
        Check.fault("lir1, 5", 2, 4, 1);
        Check.fault("l i r1, 5", 2, 2, 1);
        for (int other : new int[] {0, 9, 11, 13, 31, 33, 127, 160, 255}) {
            Check.fault("li" + (char) other + "r1, 5", 1, 2, 1);
            Check.fault((char) other + "li r1, 5", 1, 0, 1);
            Check.fault("li r1, 5 " + (char) other, 1, 9, 1);
        }
    }

    private static void comments() {
        Check.sentence("; and all behind it count for nothing.");
        StringBuilder all = new StringBuilder("halt;");
        for (char c = 0; c < 256; c++) {
            all.append(c == 10 ? ';' : c);
        }
        count(all.toString(), 1);
        count(";", 0);
        count(";halt", 0);
        count(";\nhalt", 1);
        count("a:;halt\njmp a;a:", 1);
        count(";;;\n;", 0);
        Check.fault("li r1;, 5", 2, 9, 1);
    }

    private static void words() {
        Check.sentence("WORDs: a letter a .. z, then a .. z, 0 .. 9, 8 at most;");
        count("a: jmp a", 1);
        count("z: jmp z", 1);
        count("a0: jmp a0\nz9: jmp z9", 2);
        count("abcdefgh: jmp abcdefgh", 1);
        count("z9999999: jmp z9999999", 1);
        Check.fault("abcdefghi: halt", 1, 0, 1);
        Check.fault("abcdefgh: jmp abcdefghi", 1, 14, 1);
        Check.fault("abcdefgh0", 1, 0, 1);
        Check.fault("jmp " + "a".repeat(300), 1, 4, 1);
        Check.fault("0a: halt", 1, 0, 1);
        for (char other : new char[] {'`', '{', '/', '@', '[', '_', '.', 'A', 'Z'}) {
            Check.fault("b" + other + ": halt", 1, 1, 1);
            Check.fault(other + "b: halt", 1, 0, 1);
        }
        // Words that differ in their last letter alone, or in their length.
        count("abcdefgh: halt\nabcdefgi: halt\nabcdefg: halt\na: halt\naa: halt\na0: halt", 6);
    }

    private static void labels() {
        Check.sentence("a LABEL is a word that is no register's and no instruction's.");
        for (int r = 0; r < 8; r++) {
            Check.fault("r" + r + ": halt", 2, 0, 1);
            Check.fault("jmp r" + r, 2, 4, 1);
        }
        for (String name : new String[] {"r8", "r9", "r", "r00", "r07", "r10", "ra", "q7", "s0"}) {
            count(name + ": jmp " + name, 1);
        }
        for (String name : NAMES) {
            Check.fault(name + ": halt", 2, name.length(), 1);
            Check.fault("jmp " + name, 2, 4, 1);
            count(name + "x: jmp " + name + "x", 1);
        }
    }

    private static void number(String text, int due) {
        ShadeBench x = Check.ran(0, 0, "li r1, " + text);
        Check.register(x, "li r1, " + text, 1, due, 0, 0);
    }

    private static void decimals() {
        Check.sentence("NUMBERS: perhaps -, then 1 to 10 digits, -2147483648 .. 4294967295 (as 32 bits);");
        number("0", 0);
        number("-0", 0);
        number("9", 9);
        number("-1", -1);
        number("0000000000", 0);
        number("-0000000001", -1);
        number("2147483647", Integer.MAX_VALUE);
        number("2147483648", Integer.MIN_VALUE);
        number("4294967295", -1);
        number("-2147483647", -Integer.MAX_VALUE);
        number("-2147483648", Integer.MIN_VALUE);
        for (String none : new String[] {"4294967296", "9999999999", "-2147483649", "-4294967295", "-9999999999", "00000000000",
            "-00000000000", "12345678901", "-", "--1", "-a", "-;", "- 1"}) {
            Check.fault("li r1, " + none, 1, 7, 1);
        }
        Check.fault("li r1, +1", 1, 7, 1);
        Check.fault("li r1, 1.5", 1, 8, 1);
    }

    private static void hexadecimals() {
        Check.sentence("or 0x and 1 to 8 of 0 .. 9, a .. f.");
        number("0x0", 0);
        number("0xf", 15);
        number("0x9", 9);
        number("0xa", 10);
        number("0x00000000", 0);
        number("0x7fffffff", Integer.MAX_VALUE);
        number("0x80000000", Integer.MIN_VALUE);
        number("0xffffffff", -1);
        number("0xabcdef", 0xabcdef);
        number("0x12345678", 0x12345678);
        for (String none : new String[] {"0x", "0x,", "0xg", "0xG", "0xA", "0x000000000", "0x1ffffffff", "0X1", "-0x1", "00x1", "0x-1",
            "0x 1", "0x`", "0x/", "0x:", "1x1"}) {
            Check.fault("li r1, " + none, 1, 7, 1);
        }
        Check.fault("li r1, 0x9/", 1, 10, 1);
        Check.fault("li r1, 0x9:", 2, 10, 1);
    }

    private static void operands() {
        Check.sentence("R is a register; X a register or a number; L a LABEL; N a number.");
        String[] shapes = {"RN", "RR", "RR", "RR", "RRX", "RRX", "RRX", "RRX", "RRX", "RRX", "RRX", "RRX", "RRX", "RRX", "RRX", "RRX",
            "RRX", "RRX", "RRX", "RR", "RR", "RRN", "RRN", "RRN", "RRN", "RRN", "RRN", "RRN", "RRN", "RXL", "RXL", "RXL", "RXL",
            "RXL", "RXL", "L", "L", "", "", "R", "R", "RX", "RX", "RRX", "R", "RRX", "RRX", "R", "R", "RXN", "RRX"};
        Check.due("a shape for each instruction", shapes.length, NAMES.length);
        for (int i = 0; i < NAMES.length; i++) {
            operandsOf(NAMES[i], shapes[i]);
        }
    }

    private static void operandsOf(String name, String shape) {
        String right = name;
        for (int k = 0; k < shape.length(); k++) {
            char c = shape.charAt(k);
            String ahead = right + (k == 0 ? " " : ",");
            for (String piece : new String[] {"r0", "r7", "7", "-7", "l", "halt", ":", ",", ""}) {
                boolean isRegister = piece.startsWith("r");
                boolean isNumber = piece.endsWith("7") && !isRegister;
                boolean fits = isRegister && (c == 'R' || c == 'X') || isNumber && (c == 'N' || c == 'X') || piece.equals("l") && c == 'L';
                if (fits && k == shape.length() - 1) {
                    count(ahead + piece + "\nl:", 1);
                } else if (!fits) {
                    Check.fault(ahead + piece, 2, ahead.length(), 1);
                }
            }
            right = ahead + (c == 'R' ? "r1" : c == 'L' ? "l" : "5");
        }
        count(right + "\nl:", 1);
        Check.fault(right + ",", 2, right.length(), 1);
        Check.fault(right + " r1", 2, right.length() + 1, 1);
        Check.fault(right + " l:", 2, right.length() + 1, 1);
    }

    private static void commas() {
        Check.sentence("Between operands stands a comma.");
        count("add r1,r2,r3", 1);
        Check.fault("li r1 5", 2, 6, 1);
        Check.fault("li r1,,5", 2, 6, 1);
        Check.fault("li ,r1, 5", 2, 3, 1);
        Check.fault("li, r1, 5", 2, 2, 1);
        Check.fault("add r1, r2 r3", 2, 11, 1);
        Check.fault("add r1 r2, r3", 2, 7, 1);
        Check.fault("add r1: r2, r3", 2, 6, 1);
        Check.fault("halt,", 2, 4, 1);
    }

    private static void firstFault() {
        Check.sentence("FAULTS, the first line with one, in it the first place (bytes of the text from 0), at one place the least:");
        Check.fault("halt halt\n$", 2, 5, 1);
        Check.fault("a:\na:\n$", 3, 3, 2);
        Check.fault("halt\n$\na:\na:\nhalt halt", 1, 5, 2);
        Check.fault("li r1 5 $", 2, 6, 1);
        Check.fault("li $ 5 5", 1, 3, 1);
        Check.fault("a:\na: $", 3, 3, 2);
        Check.fault("a:\na: 5", 3, 3, 2);
        Check.fault("add r1, 5a, r2", 1, 8, 1);
        Check.fault("halt 5a", 1, 5, 1);
        Check.fault("halt abcdefghi", 1, 5, 1);
        Check.fault("foo $", 1, 4, 1);
        Check.fault("a: a: halt", 2, 3, 1);
        Check.fault("\n\n  $", 1, 4, 3);
    }

    private static void noNumber() {
        Check.sentence("(a digit or letter, A .. Z too, stands directly behind no number);");
        for (String none : new String[] {"5a", "5z", "5A", "5Z", "5r1", "-5x", "0x5g", "0x5z", "0x5G", "0x5A", "0x5Z", "0x123456780",
            "12345678900", "0x12345678a", "1234567890a"}) {
            Check.fault("li r1, " + none, 1, 7, 1);
            Check.fault("add r1, r1, " + none + ", 5", 1, 12, 1);
        }
        // What is no letter and no digit may stand there, or is itself what can't.
        for (char other : new char[] {'@', '[', '`', '{', '/', '_', '.'}) {
            Check.fault("li r1, 5" + other, 1, 8, 1);
            Check.fault("li r1, 0x5" + other, 1, 10, 1);
        }
        Check.fault("li r1, 5:", 2, 8, 1);
        Check.fault("li r1, 5-5", 2, 8, 1);
        Check.fault("li r1, 5-", 1, 8, 1);
        count("li r1, 5;a", 1);
        count("li r1, 5 ;", 1);
        count("beq r1, 5,a\na:", 1);
    }

    private static void noByteNoWord() {
        Check.sentence("1 a byte, word or number that is none");
        for (int c = 0; c < 256; c++) {
            boolean known = c == 10 || c == 32 || c == ';' || c == ',' || c == ':' || c >= '0' && c <= '9' || c >= 'a' && c <= 'z';
            if (!known) {
                Check.fault("halt " + (char) c, 1, 5, 1);
            }
        }
        Check.fault("halt ,", 2, 5, 1);
        Check.fault("halt :", 2, 5, 1);
        Check.fault("halt 0", 2, 5, 1);
        Check.fault("halt 9", 2, 5, 1);
        Check.fault("halt a", 2, 5, 1);
        Check.fault("halt z", 2, 5, 1);
    }

    private static void lineEnds() {
        Check.sentence("(at the line's end: the place of its 10, or the text's length;");
        Check.fault("li", 2, 2, 1);
        Check.fault("li\n", 2, 2, 1);
        Check.fault("li\nhalt", 2, 2, 1);
        Check.fault("li   ", 2, 5, 1);
        Check.fault("li   \n", 2, 5, 1);
        Check.fault("li ;abc", 2, 7, 1);
        Check.fault("li ;abc\nhalt", 2, 7, 1);
        Check.fault("li r1", 2, 5, 1);
        Check.fault("li r1,\n", 2, 6, 1);
        Check.fault("halt\nadd r1, r2,", 2, 16, 2);
        Check.fault("halt\nadd r1, r2, ;\n\n", 2, 18, 2);
        Check.fault(" ".repeat(2998) + "li", 2, 3000, 1);
    }

    private static void behindAWord() {
        Check.sentence("behind a word that is no instruction and has no : , what is there, also if the word is a LABEL's that is told already);");
        Check.fault("foo", 2, 3, 1);
        Check.fault("foo\nhalt", 2, 3, 1);
        Check.fault("foo ;:", 2, 6, 1);
        Check.fault("foo halt", 2, 4, 1);
        Check.fault("foo r1, 5", 2, 4, 1);
        Check.fault("foo , :", 2, 4, 1);
        Check.fault("foo 5", 2, 4, 1);
        Check.fault("foo foo:", 2, 4, 1);
        Check.fault("a: halt\na halt", 2, 10, 2);
        Check.fault("a:\na", 2, 4, 2);
        Check.fault("a:\na\n", 2, 4, 2);
        Check.fault("a:\na $", 1, 5, 2);
    }

    private static void toldAlready() {
        Check.sentence("3 a LABEL that is told already (at it);");
        Check.fault("a:\na:", 3, 3, 2);
        Check.fault("a:\n  a  :halt", 3, 5, 2);
        Check.fault("a:\nb:\nb:\na:", 3, 6, 3);
        Check.fault("a: halt\nb: jmp a\na: halt", 3, 17, 3);
        StringBuilder many = new StringBuilder();
        for (int n = 0; n < 199; n++) {
            many.append('l').append(n).append(":\n");
        }
        count(many + "l199:", 0);
        count(many + "l199: jmp l199", 1);
        count(many + "l199: jmp l0", 1);
        Check.fault(many + "l0:", 3, many.length(), 200);
        Check.fault(many + "l198:", 3, many.length(), 200);
    }

    private static void toldNowhere() {
        Check.sentence("then, when there is none of these, the first line that names one that is told nowhere: 4 (at it).");
        Check.fault("jmp a", 4, 4, 1);
        Check.fault("a: jmp a\n  call b\njmp c", 4, 16, 2);
        Check.fault("beq r1, r2, c", 4, 12, 1);
        Check.fault("bgeu r1, 5,c ;", 4, 11, 1);
        Check.fault("a: jmp aa\naaa:", 4, 7, 1);
        Check.fault("abcdefgh:jmp abcdefg", 4, 13, 1);
        Check.fault("jmp a\nhalt\n$", 1, 11, 3);
        Check.fault("jmp a\nhalt 5", 2, 11, 2);
        Check.fault("jmp a\nb:\nb:", 3, 9, 3);
        count("jmp a\na:", 1);
        count("a: jmp a", 1);
        count("jmp l\n".repeat(199) + "l: jmp l", 200);
        Check.fault("jmp l\n".repeat(199) + "l: jmp m", 4, 199 * 6 + 7, 200);
    }

    private static void tooLong() {
        Check.sentence("5, ahead of all: the 201st line's beginning, the 3,001st byte (the lesser one).");
        Check.fault("$".repeat(3001), 5, 3000, 1);
        Check.fault("$\n".repeat(200) + "a", 5, 400, 201);
        Check.fault("a:\na:\n" + " ".repeat(2995), 5, 3000, 3);
        Check.fault("jmp a" + " ".repeat(2996), 5, 3000, 1);
        Check.fault(" ".repeat(4000), 5, 3000, 1);
        Check.fault("\n".repeat(4000), 5, 200, 201);
        Check.fault("\n".repeat(200) + " ".repeat(3000), 5, 200, 201);
        Check.fault("\n".repeat(199) + " ".repeat(3000) + "\nhalt", 5, 3000, 200);
        // The 201st line begins with the 3,001st byte; ahead of it; behind it.
        Check.fault("\n".repeat(199) + " ".repeat(2800) + "\nhalt", 5, 3000, 201);
        Check.fault("\n".repeat(199) + " ".repeat(2799) + "\nhalt", 5, 2999, 201);
        Check.fault("\n".repeat(199) + " ".repeat(2801) + "\nhalt", 5, 3000, 200);
        count("\n".repeat(199) + " ".repeat(2800) + "\n", 0);
        Check.fault("\n".repeat(199) + " ".repeat(2801) + "\n", 5, 3000, 200);
    }

    private static void places() {
        Check.sentence("An instruction's number is its place among all; a LABEL stands for the next one behind it");
        ShadeBench x = Check.bench(0, 0, "; none", "jmp b", "", "a:", "out r0", "halt", "b:", "c:", "", " ; ", "jmp a");
        int[] next = {0, 3, 1, 2};
        for (int i = 0; i < next.length; i++) {
            Check.due("STEP " + i + ": state(0)", x.state(0), next[i]);
            x.run(1);
        }
        Check.due("the report's instruction", x.report(0, 1), 1);
        ShadeBench y = Check.ran(0, 0, ("jmp l\n" + "ret\n".repeat(198) + "l: out r6").split("\n"));
        Check.due("the 200th", y.report(0, 1), 199);
        Check.due("the END behind it", y.state(0), 200);
        Check.due("STEPS", y.state(2), 2);
    }

    private static void theEnd() {
        Check.sentence("(perhaps the END: it has halted as soon as it comes there, also as it BEGINS, without a STEP).");
        String[][] programs = {{"jmp e", "halt", "e:"}, {"li r1, 1"}, {"li r1, 1", "beq r1, 1, e", "halt", "e:"},
            {"call e", "halt", "e:"}, {"jmp m", "a: ret", "m: call a"}, {"e:"}, {";"}};
        int[] steps = {1, 1, 2, 1, 3, 0, 0};
        int[] count = {2, 1, 3, 2, 3, 0, 0};
        for (int i = 0; i < programs.length; i++) {
            ShadeBench x = Check.bench(0, 0, programs[i]);
            Check.due("program " + i + ": run", x.run(steps[i]), steps[i]);
            Check.due("program " + i + ": state(1)", x.state(1), 1);
            Check.due("program " + i + ": state(0)", x.state(0), count[i]);
            Check.due("program " + i + ": run again", x.run(1), 0);
            Check.due("program " + i + ": state(2)", x.state(2), steps[i]);
        }
    }
}
