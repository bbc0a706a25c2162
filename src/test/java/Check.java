import java.nio.charset.StandardCharsets;

/** What the tests share: texts are fed to a bench, answers are held against those that are due. */
final class Check {
    static final int NONE = ShadeBench.NONE;

    private static int wrong = 0;
    private static int asked = 0;

    private Check() {
    }

    static void due(String call, long got, long want) {
        asked++;
        if (got != want) {
            wrong++;
            System.out.println(call + " answered " + got + ", due is " + want);
        }
    }

    static void due(String call, boolean got, boolean want) {
        due(call, got ? 1 : 0, want ? 1 : 0);
    }

    /** Ends the test: with exit code 1 if an answer was not the one that was due. */
    static void close() {
        System.out.println(asked + " answers, " + wrong + " wrong");
        System.exit(wrong == 0 && asked > 0 ? 0 : 1);
    }

    static void feed(ShadeBench bench, String text) {
        byte[] bytes = text.getBytes(StandardCharsets.ISO_8859_1);
        feed(bench, bytes);
    }

    static void feed(ShadeBench bench, byte[] bytes) {
        for (int from = 0; from < bytes.length; from += 20) {
            bench.feed(word(bytes, from), word(bytes, from + 4), word(bytes, from + 8), word(bytes, from + 12),
                    word(bytes, from + 16));
        }
        bench.end(bytes.length);
    }

    private static int word(byte[] bytes, int from) {
        int word = 0;
        for (int i = from; i < from + 4; i++) {
            word = word << 8 | (i < bytes.length ? bytes[i] & 255 : 0);
        }
        return word;
    }

    /** A new bench with the program of some lines, under way by a filling in a mode. */
    static ShadeBench bench(int filling, int mode, String... lines) {
        ShadeBench bench = new ShadeBench();
        feed(bench, String.join("\n", lines));
        int count = bench.assemble();
        if (count == NONE) {
            due("assemble() of " + String.join(" / ", lines) + " with fault " + bench.fault(0) + " at "
                    + bench.fault(1), count, lines.length);
        }
        bench.begin(filling, mode);
        return bench;
    }

    /** The same, run to its end. */
    static ShadeBench ran(int filling, int mode, String... lines) {
        ShadeBench bench = bench(filling, mode, lines);
        bench.run(20000);
        return bench;
    }

    static void register(ShadeBench bench, String name, int r, int value, int shade, int origin) {
        due(name + ": register(" + r + ", 0)", bench.register(r, 0), value);
        due(name + ": register(" + r + ", 1)", bench.register(r, 1), shade);
        due(name + ": register(" + r + ", 2)", bench.register(r, 2), origin);
    }

    static void memory(ShadeBench bench, String name, int a, int value, int shade, int origin, int open) {
        due(name + ": memory(" + a + ", 0)", bench.memory(a, 0), value);
        due(name + ": memory(" + a + ", 1)", bench.memory(a, 1), shade);
        due(name + ": memory(" + a + ", 2)", bench.memory(a, 2), origin);
        due(name + ": memory(" + a + ", 3)", bench.memory(a, 3), open);
    }

    static void report(ShadeBench bench, String name, int k, int kind, int place, int origin, int count) {
        due(name + ": report(" + k + ", 0)", bench.report(k, 0), kind);
        due(name + ": report(" + k + ", 1)", bench.report(k, 1), place);
        due(name + ": report(" + k + ", 2)", bench.report(k, 2), origin);
        due(name + ": report(" + k + ", 3)", bench.report(k, 3), count);
    }

    /** Numbers as the filling gives them, one after the other. */
    static int[] filling(int f, int count) {
        int[] numbers = new int[count];
        int s = f;
        for (int i = 0; i < count; i++) {
            s = s * 1664525 + 1013904223;
            numbers[i] = s ^ (s >>> 16);
        }
        return numbers;
    }
}
