/** Promise 16: twin. */
public final class TwinTest {
    public static void main(String[] args) {
        sameMark();
        otherMark();
        steps();
        inputAndMode();
        nothingElse();
        Check.close();
    }

    private static void sameMark() {
        ShadeBench x = Check.ran(5, 0, "and r0, r0, 0", "out r0", "beq r0, 0, a", "halt", "a: div r1, r1, 0");
        int m = 7;
        int[] added = {3, 0, 1, 4, 1};
        for (int value : added) {
            m = m * 31 + value;
        }
        Check.due("its own", x.state(8), m);
        Check.due("twin(77)", x.twin(77), m);
        Check.due("twin(5)", x.twin(5), m);
    }

    private static void otherMark() {
        ShadeBench x = Check.ran(5, 0, "new r1, 4", "push r2", "lbu r2, r1, 2", "out r0", "out r2", "halt");
        for (int filling : new int[] {5, 6, -1, Integer.MIN_VALUE}) {
            int[] f = Check.filling(filling, 10);
            int m = ((7 * 31 + 3) * 31 + f[0]) * 31 + 3;
            Check.due("twin(" + filling + ")", x.twin(filling), m * 31 + (f[9] & 255));
        }
        Check.due("by the same FILLING", x.twin(5), x.state(8));
    }

    private static void steps() {
        ShadeBench x = Check.bench(0, 0, "li r1, 1", "out r1", "out r1", "halt");
        Check.due("no STEPS", x.twin(1), 7);
        x.run(2);
        int once = (7 * 31 + 3) * 31 + 1;
        Check.due("two STEPS", x.twin(1), once);
        x.run(9);
        Check.due("all STEPS", x.twin(1), (once * 31 + 3) * 31 + 1);
        // It ends ahead, if its way is another one.
        int[] f = Check.filling(0, 1);
        ShadeBench y = Check.bench(0, 0, "beq r0, " + f[0] + ", a", "halt", "a: out r7", "jmp a");
        y.run(11);
        Check.due("a twin that ends", y.twin(1), 7 * 31 + 2);
        Check.due("STEPS are not its own", y.state(2), 11);
    }

    private static void inputAndMode() {
        ShadeBench x = Check.bench(3, 1, "in r1", "out r1", "in r1", "out r1", "halt");
        x.input(5);
        x.suppress(0, 0, 9);
        x.run(9);
        int m = (((7 * 31 + 3) * 31 + 5) * 31 + 3) * 31;
        Check.due("INPUT from the first on", x.twin(8), m - 1);
        Check.due("and again", x.twin(9), m - 1);
        x.input(6);
        Check.due("with what came later", x.twin(8), m + 6);
    }

    private static void nothingElse() {
        ShadeBench x = Check.bench(3, 1, "in r1", "and r2, r2, 1", "add r3, r2, 256", "new r4, 8", "out r0", "in r5", "halt");
        x.input(10);
        x.input(11);
        x.run(5);
        int[] before = new int[10];
        for (int what = 0; what < 10; what++) {
            before[what] = x.state(what);
        }
        x.twin(4);
        for (int what = 0; what < 10; what++) {
            Check.due("state(" + what + ") behind a twin", x.state(what), before[what]);
        }
        Check.register(x, "behind a twin", 3, 256 + (Check.filling(3, 3)[2] & 1), 1, 3);
        Check.memory(x, "behind a twin", 1032, Check.filling(3, 8)[7] & 255, 255, 9, 1);
        Check.due("output(0) behind a twin", x.output(0), Check.filling(3, 1)[0]);
        Check.report(x, "behind a twin", 0, 3, 4, 1, 1);
        Check.due("block(1, 0) behind a twin", x.block(1, 0), 1032);
        x.run(1);
        Check.due("INPUT goes on", x.register(5, 0), 11);
        Check.due("input behind a twin", x.input(1), 3);
    }
}
