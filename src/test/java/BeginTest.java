/** Promises 6, 7 and 8: begin, input, suppress. */
public final class BeginTest {
    public static void main(String[] args) {
        asItBegins();
        modes();
        beginsAnew();
        inputs();
        inputAnew();
        suppressions();
        suppressionsMatch();
        Check.close();
    }

    private static void asItBegins() {
        ShadeBench x = Check.bench(-77, 0, "halt");
        int[] filling = Check.filling(-77, 7);
        for (int r = 0; r < 7; r++) {
            Check.register(x, "begin", r, filling[r], -1, r + 1);
        }
        Check.register(x, "begin", 7, 4096, 0, 0);
        int[] closed = {0, 255, 512, 1023, 1024, 3071, 3072, 4095};
        for (int a : closed) {
            Check.memory(x, "begin", a, 0, 255, 0, 0);
        }
        Check.memory(x, "begin", 256, 0, 0, 0, 1);
        Check.memory(x, "begin", 511, 0, 0, 0, 1);
    }

    private static void modes() {
        ShadeBench x = Check.bench(1, 0, "and r0, r0, 1", "add r1, r0, 0", "halt");
        x.run(9);
        Check.due("COARSE", x.register(1, 1), -1);
        Check.due("begin(1, 2)", x.begin(1, 2), false);
        Check.due("begin(1, -1)", x.begin(1, -1), false);
        Check.due("nothing is done", x.state(2), 3);
        Check.due("begin(1, 1)", x.begin(1, 1), true);
        x.run(9);
        Check.due("FINE", x.register(1, 1), 1);
    }

    private static void beginsAnew() {
        ShadeBench x = Check.ran(3, 0, "li r1, 300", "sw r1, r1, 0", "push r1", "new r2, 8", "out r0", "call a", "a: halt");
        Check.due("run before", x.state(6), 1);
        x.begin(4, 0);
        int[] due = {0, 0, 0, 0, 0, 0, 0, 0, 7, 1};
        for (int what = 0; what < due.length; what++) {
            Check.due("anew: state(" + what + ")", x.state(what), due[what]);
        }
        Check.memory(x, "anew", 300, 0, 0, 0, 1);
        Check.memory(x, "anew", 1032, 0, 255, 0, 0);
        Check.memory(x, "anew", 4092, 0, 255, 0, 0);
        Check.register(x, "anew", 1, Check.filling(4, 2)[1], -1, 2);
        Check.register(x, "anew", 7, 4096, 0, 0);
        Check.due("anew: report(0, 0)", x.report(0, 0), Check.NONE);
        Check.due("anew: output(0)", x.output(0), Check.NONE);
        Check.due("anew: block(1, 0)", x.block(1, 0), Check.NONE);
        x.run(20);
        Check.due("the first block again", x.block(1, 0), 1032);
        ShadeBench y = Check.bench(3, 0, "call a", "halt", "a: li r1, 1", "ret", "ret");
        y.run(2);
        y.begin(3, 0);
        y.run(3);
        Check.due("calls are kept anew", y.state(0), 1);
        Check.feed(y, "call a\na: halt");
        y.assemble();
        y.run(1);
        y.begin(0, 0);
        Check.feed(y, "ret\nhalt");
        y.assemble();
        y.run(1);
        Check.due("no call is kept", y.state(1), 1);
        ShadeBench z = Check.bench(3, 0, "new r1, 300", "new r2, 200", "free r1", "free r2", "halt");
        for (int i = 0; i < 3; i++) {
            z.begin(i, 0);
            z.run(9);
            Check.due("KEPT anew", z.block(1, 2), 1);
            Check.due("KEPT anew", z.block(2, 2), 1);
        }
    }

    private static void inputs() {
        ShadeBench x = Check.bench(0, 0, "in r1", "in r2", "in r3", "halt");
        Check.due("input(5)", x.input(5), 1);
        x.run(1);
        Check.register(x, "in", 1, 5, 0, 0);
        Check.due("input(-6)", x.input(-6), 2);
        x.run(2);
        Check.register(x, "in", 2, -6, 0, 0);
        Check.register(x, "in without", 3, -1, 0, 0);
        for (int n = 3; n <= 100; n++) {
            Check.due("input " + n, x.input(n), n);
        }
        Check.due("input 101", x.input(1), Check.NONE);
        x.begin(0, 0);
        Check.due("input 101 behind begin", x.input(1), Check.NONE);
    }

    private static void inputAnew() {
        ShadeBench x = Check.bench(0, 0, "in r1", "in r2");
        x.input(8);
        x.input(9);
        x.run(2);
        x.begin(1, 1);
        x.run(2);
        Check.due("the first again", x.register(1, 0), 8);
        Check.due("the second again", x.register(2, 0), 9);
    }

    private static void suppressions() {
        ShadeBench x = Check.bench(0, 0, "halt");
        Check.due("kind -1", x.suppress(-1, 0, 1), Check.NONE);
        Check.due("kind 8", x.suppress(8, 0, 1), Check.NONE);
        Check.due("from above to", x.suppress(1, 2, 1), Check.NONE);
        Check.due("from below 0", x.suppress(1, -1, 1), Check.NONE);
        for (int n = 1; n <= 20; n++) {
            Check.due("suppression " + n, x.suppress(n % 8, 0, n - 1), n);
        }
        Check.due("suppression 21", x.suppress(1, 0, 1), Check.NONE);
        x.begin(0, 0);
        Check.due("they stay", x.suppress(1, 0, 1), Check.NONE);
    }

    private static void suppressionsMatch() {
        ShadeBench x = Check.bench(0, 0, "out r0", "out r1", "out r2", "lw r3, r4, 0", "out r5", "halt");
        x.suppress(3, 1, 2);
        x.suppress(0, 3, 3);
        x.suppress(2, 4, 9);
        x.run(9);
        Check.due("suppressed", x.state(5), 4);
        Check.due("reported", x.state(4), 2);
        Check.report(x, "first", 0, 3, 0, 1, 1);
        Check.report(x, "second", 1, 3, 4, 6, 1);
        Check.due("not QUIET", x.state(9), 0);

        ShadeBench y = Check.bench(0, 0, "out r0", "out r0", "halt");
        y.run(1);
        y.suppress(0, 0, 5);
        y.run(5);
        Check.due("what comes later alone: reported", y.state(4), 1);
        Check.due("what comes later alone: suppressed", y.state(5), 1);
        y.begin(0, 0);
        y.run(5);
        Check.due("all of it: reported", y.state(4), 0);
        Check.due("all of it: suppressed", y.state(5), 2);
        Check.due("all of it: not QUIET", y.state(9), 0);
    }
}
