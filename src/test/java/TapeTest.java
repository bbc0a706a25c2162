/** Promises 1, 2 and 3: a new object, feed, end. */
public final class TapeTest {
    public static void main(String[] args) {
        newObject();
        feedCounts();
        tapeIsFull();
        endCuts();
        bytesComeHighestFirst();
        Check.close();
    }

    private static void newObject() {
        ShadeBench x = new ShadeBench();
        Check.due("NONE", ShadeBench.NONE, -1);
        Check.due("new: begin(0, 0)", x.begin(0, 0), false);
        Check.due("new: run(0)", x.run(0), Check.NONE);
        Check.due("new: input(5)", x.input(5), Check.NONE);
        Check.due("new: suppress(0, 0, 0)", x.suppress(0, 0, 0), Check.NONE);
        Check.due("new: twin(0)", x.twin(0), Check.NONE);
        for (int what = -1; what <= 10; what++) {
            Check.due("new: state(" + what + ")", x.state(what), Check.NONE);
        }
        for (int r = -1; r <= 8; r++) {
            Check.due("new: register(" + r + ", 0)", x.register(r, 0), Check.NONE);
        }
        Check.due("new: memory(256, 0)", x.memory(256, 0), Check.NONE);
        Check.due("new: report(0, 0)", x.report(0, 0), Check.NONE);
        Check.due("new: output(0)", x.output(0), Check.NONE);
        Check.due("new: block(1, 0)", x.block(1, 0), Check.NONE);
        Check.due("new: fault(0)", x.fault(0), 0);
        Check.due("new: fault(1)", x.fault(1), Check.NONE);
        Check.due("new: fault(2)", x.fault(2), Check.NONE);
    }

    private static void feedCounts() {
        ShadeBench x = new ShadeBench();
        Check.due("first feed", x.feed(1, 2, 3, 4, 5), 20);
        Check.due("second feed", x.feed(-1, -2, -3, -4, -5), 40);
        Check.due("end(0)", x.end(0), 0);
        Check.due("feed behind end(0)", x.feed(0, 0, 0, 0, 0), 20);
    }

    private static void tapeIsFull() {
        ShadeBench x = new ShadeBench();
        for (int i = 1; i <= 200; i++) {
            Check.due("feed " + i, x.feed(0, 0, 0, 0, 0), 20 * i);
        }
        Check.due("feed 201", x.feed(0, 0, 0, 0, 0), Check.NONE);
        Check.due("end(4001)", x.end(4001), Check.NONE);
        Check.due("end(4000)", x.end(4000), 4000);
        Check.due("end(3981)", x.end(3981), 3981);
        Check.due("feed on 3981", x.feed(0, 0, 0, 0, 0), Check.NONE);
        Check.due("end(3981) again", x.end(3981), 3981);
        Check.due("end(3980)", x.end(3980), 3980);
        Check.due("feed on 3980", x.feed(0, 0, 0, 0, 0), 4000);
    }

    private static void endCuts() {
        ShadeBench x = new ShadeBench();
        Check.due("end(0) of nothing", x.end(0), 0);
        Check.due("end(1) of nothing", x.end(1), Check.NONE);
        Check.due("end(-1)", x.end(-1), Check.NONE);
        x.feed(0, 0, 0, 0, 0);
        Check.due("end(21)", x.end(21), Check.NONE);
        Check.due("end(-2147483648)", x.end(Integer.MIN_VALUE), Check.NONE);
        Check.due("end(20)", x.end(20), 20);
        Check.due("end(7)", x.end(7), 7);
        Check.due("end(8)", x.end(8), Check.NONE);
        Check.due("feed on 7", x.feed(0, 0, 0, 0, 0), 27);
    }

    private static void bytesComeHighestFirst() {
        ShadeBench x = new ShadeBench();
        // "halt", "\nhal", "t;..", and what is behind a ';' counts for nothing.
        x.feed(0x68616c74, 0x0a68616c, 0x743bffff, 0x80818283, 0x00000a68);
        x.feed(0x616c7420, 0x20202020, 0, 0, 0);
        x.end(28);
        Check.due("assemble() of three halts", x.assemble(), 3);
        Check.due("the tape is empty then", x.end(1), Check.NONE);
    }
}
