/** Promise 5: fault, and with it what the document says of texts. */
public final class FaultTest {
    public static void main(String[] args) {
        noFault();
        noPiece();
        misplaced();
        told();
        toldNowhere();
        tooLong();
        latestOne();
        Check.close();
    }

    private static void fault(String text, int fault, int place, int line) {
        Check.fault(text, fault, place, line);
    }

    private static void noFault() {
        ShadeBench x = Check.bench(0, 0, "halt");
        Check.due("fault(0)", x.fault(0), 0);
        Check.due("fault(1)", x.fault(1), Check.NONE);
        Check.due("fault(2)", x.fault(2), Check.NONE);
        Check.due("fault(3)", x.fault(3), Check.NONE);
        Check.due("fault(-1)", x.fault(-1), Check.NONE);
    }

    private static void noPiece() {
        fault("halt\n  $", 1, 7, 2);
        fault("Li r1, 5", 1, 0, 1);
        fault("li r1,\t5", 1, 6, 1);
        fault("halt\r\n", 1, 4, 1);
        fault("li r1, \377", 1, 7, 1);
        fault("abcdefghi: halt", 1, 0, 1);
        fault("jmp abcdefghi", 1, 4, 1);
        fault("li r1, 4294967296", 1, 7, 1);
        fault("li r1, -2147483649", 1, 7, 1);
        fault("li r1, 00000000001", 1, 7, 1);
        fault("li r1, -", 1, 7, 1);
        fault("li r1, - 5", 1, 7, 1);
        fault("li r1, --5", 1, 7, 1);
        fault("li r1, 0x", 1, 7, 1);
        fault("li r1, 0xg", 1, 7, 1);
        fault("li r1, 0x123456789", 1, 7, 1);
        fault("li r1, 0xF", 1, 7, 1);
        fault("li r1, 0x1F", 1, 7, 1);
        fault("li r1, 0X1", 1, 7, 1);
        fault("li r1, -0x1", 1, 7, 1);
        fault("li r1, 5a", 1, 7, 1);
        fault("li r1, 5Z", 1, 7, 1);
        fault("li r1, 5A", 1, 7, 1);
        fault("li r1, 5z", 1, 7, 1);
        fault("li r1, 0xfg", 1, 7, 1);
        fault("foo $", 1, 4, 1);
        fault("liB r1, 5", 1, 2, 1);
        fault("li r1 $, 5", 1, 6, 1);
        fault("halt $", 1, 5, 1);
    }

    private static void misplaced() {
        fault("li", 2, 2, 1);
        fault("li \nhalt", 2, 3, 1);
        fault("li r1 ; , 5\nhalt", 2, 11, 1);
        fault("li r1, ; 5", 2, 10, 1);
        fault("li r1 5", 2, 6, 1);
        fault("li, r1, 5", 2, 2, 1);
        fault("li 5, r1", 2, 3, 1);
        fault("li r1, r2", 2, 7, 1);
        fault("li r1, 5, 6", 2, 8, 1);
        fault("li r1, 5 halt", 2, 9, 1);
        fault("li r1, 5-3", 2, 8, 1);
        fault("add r1, 5, r2", 2, 8, 1);
        fault("add r1, r2, l", 2, 12, 1);
        fault("lw r1, r2, r3", 2, 11, 1);
        fault("mark r1, r2, r3", 2, 13, 1);
        fault("beq 5, r1, l", 2, 4, 1);
        fault("beq r1, r2, 5", 2, 12, 1);
        fault("jmp r1", 2, 4, 1);
        fault("jmp add", 2, 4, 1);
        fault("jmp 5", 2, 4, 1);
        fault("push 5", 2, 5, 1);
        fault("push r8", 2, 5, 1);
        fault("halt halt", 2, 5, 1);
        fault("ret:", 2, 3, 1);
        fault("r1: halt", 2, 0, 1);
        fault("r1 halt", 2, 0, 1);
        fault("5: halt", 2, 0, 1);
        fault(": halt", 2, 0, 1);
        fault(", halt", 2, 0, 1);
        fault("foo", 2, 3, 1);
        fault("foo  ", 2, 5, 1);
        fault("foo ; :\n", 2, 7, 1);
        fault("foo halt", 2, 4, 1);
        fault("foo r1, 5", 2, 4, 1);
        fault("foo:: halt", 2, 4, 1);
        fault("foo: bar", 2, 5, 1);
        fault("foo: bar: halt", 2, 5, 1);
        fault("foo: r1", 2, 5, 1);
        fault("foo: halt\nfoo halt", 2, 14, 2);
        fault("halt\nhalt\nhalt r1\n$", 2, 15, 3);
    }

    private static void told() {
        fault("a: halt\na: halt", 3, 8, 2);
        fault("a: halt\n  a : $", 3, 10, 2);
        fault("a:\nb:\na:", 3, 6, 3);
        fault("jmp x\na:\na:", 3, 9, 3);
    }

    private static void toldNowhere() {
        fault("jmp a", 4, 4, 1);
        fault("a: jmp a\nbeq r1, 5, b\njmp c", 4, 20, 2);
        fault("call aa\na: halt", 4, 5, 1);
        fault("jmp a\nhalt 5", 2, 11, 2);
    }

    private static void tooLong() {
        fault("\n".repeat(200) + "h", 5, 200, 201);
        fault("\n".repeat(201), 5, 200, 201);
        fault("$".repeat(3001), 5, 3000, 1);
        fault("\n\n" + ";".repeat(2998) + "\n", 5, 3000, 3);
        fault("\n".repeat(199) + ";".repeat(2801) + "\n\n", 5, 3000, 200);
        fault("\n".repeat(199) + ";".repeat(2800) + "\n\n", 5, 3000, 201);
        fault("$\n".repeat(200) + "halt", 5, 400, 201);
        fault(" ".repeat(4000), 5, 3000, 1);
    }

    private static void latestOne() {
        ShadeBench x = new ShadeBench();
        Check.feed(x, "$");
        x.assemble();
        Check.due("fault(0) at first", x.fault(0), 1);
        Check.feed(x, "halt");
        x.assemble();
        Check.due("fault(0) then", x.fault(0), 0);
        Check.due("fault(1) then", x.fault(1), Check.NONE);
        Check.due("fault(2) then", x.fault(2), Check.NONE);
    }
}
