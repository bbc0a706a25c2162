import java.io.IOException;
import java.nio.charset.StandardCharsets;
import java.nio.file.Files;
import java.nio.file.Path;
import java.util.Arrays;

/** What the tests share: texts are fed to a bench, answers are held against those that are due. */
final class Check {
    static final int NONE = ShadeBench.NONE;
    static final int SHADED_FILLING = 12345;

    private static final Path DOCUMENT = Path.of("../shared/DOC.md");
    private static final int[] SOME_BYTES = {0, 255, 256, 300, 511, 1031, 1032, 1039, 1040, 4092, 4095};

    private static int wrong = 0;
    private static int asked = 0;
    private static String document = null;
    private static String sentence = "";

    private Check() {
    }

    static void due(String call, long got, long want) {
        asked++;
        if (got != want) {
            wrong++;
            System.out.println(sentence + call + " answered " + got + ", due is " + want);
        }
    }

    static void due(String call, boolean got, boolean want) {
        due(call, got ? 1 : 0, want ? 1 : 0);
    }

    /** The answers behind it are due by these words of the document; so they must stand in it. */
    static void sentence(String words) {
        sentence = "";
        if (document == null) {
            document = readDocument();
        }
        due("the document says \"" + words + "\"", document.isEmpty() || document.contains(words), true);
        sentence = "\"" + words + "\": ";
    }

    private static String readDocument() {
        try {
            return Files.exists(DOCUMENT) ? Files.readString(DOCUMENT).replaceAll("\\s+", " ") : "";
        } catch (IOException e) {
            return "";
        }
    }

    /** Ends the test: with exit code 1 if an answer was not the one that was due. */
    static void close() {
        System.out.println(asked + " answers, " + wrong + " wrong");
        System.exit(wrong == 0 && asked > 0 ? 0 : 1);
    }

    static void feed(ShadeBench bench, String text) {
        byte[] bytes = text.getBytes(StandardCharsets.ISO_8859_1);
        feed(bench, bytes);
    }

    static void feed(ShadeBench bench, byte[] bytes) {
        for (int from = 0; from < bytes.length; from += 20) {
            bench.feed(word(bytes, from), word(bytes, from + 4), word(bytes, from + 8), word(bytes, from + 12),
                    word(bytes, from + 16));
        }
        bench.end(bytes.length);
    }

    private static int word(byte[] bytes, int from) {
        int word = 0;
        for (int i = from; i < from + 4; i++) {
            word = word << 8 | (i < bytes.length ? bytes[i] & 255 : 0);
        }
        return word;
    }

    /** A new bench with the program of some lines, under way by a filling in a mode. */
    static ShadeBench bench(int filling, int mode, String... lines) {
        ShadeBench bench = new ShadeBench();
        feed(bench, String.join("\n", lines));
        int count = bench.assemble();
        if (count == NONE) {
            due("assemble() of " + String.join(" / ", lines) + " with fault " + bench.fault(0) + " at "
                    + bench.fault(1), count, lines.length);
        }
        bench.begin(filling, mode);
        return bench;
    }

    /** The same, run to its end. */
    static ShadeBench ran(int filling, int mode, String... lines) {
        ShadeBench bench = bench(filling, mode, lines);
        bench.run(20000);
        return bench;
    }

    /** How many instructions a text has, for a new bench. */
    static int count(String text) {
        ShadeBench bench = new ShadeBench();
        feed(bench, text);
        return bench.assemble();
    }

    static void fault(String text, int fault, int place, int line) {
        ShadeBench bench = new ShadeBench();
        feed(bench, text);
        String name = text.length() > 60 ? text.length() + " bytes" : text.replace("\n", "\\n");
        due("assemble() of " + name, bench.assemble(), NONE);
        due("fault(0) of " + name, bench.fault(0), fault);
        due("fault(1) of " + name, bench.fault(1), place);
        due("fault(2) of " + name, bench.fault(2), line);
    }

    /**
     * Runs a line with values in r1 and r2 (values: bits and SHADE of r1, bits and SHADE of r2); those bits of them are
     * UNSET that the SHADES tell, of ORIGIN 2 and 3. The line's number is 4.
     */
    static ShadeBench shaded(int mode, int[] values, String line) {
        int[] f = filling(SHADED_FILLING, 3);
        return ran(SHADED_FILLING, mode, "and r1, r1, " + values[1], "xor r1, r1, " + (f[1] & values[1] ^ values[0]),
                "and r2, r2, " + values[3], "xor r2, r2, " + (f[2] & values[3] ^ values[2]), line, "halt");
    }

    /** The same; then r3 is looked at. */
    static void result(String line, int mode, int[] values, int value, int shade, int origin) {
        ShadeBench bench = shaded(mode, values, line);
        register(bench, line + " in mode " + mode + " of " + Arrays.toString(values), 3, value, shade, origin);
    }

    /** Answers of all kinds, to be held against those of another time. */
    static int[] snapshot(ShadeBench bench) {
        int[] answers = new int[200];
        int n = 0;
        for (int what = 0; what < 10; what++) {
            answers[n++] = bench.state(what);
        }
        for (int i = 0; i < 8 * 3; i++) {
            answers[n++] = bench.register(i / 3, i % 3);
        }
        for (int i = 0; i < SOME_BYTES.length * 4; i++) {
            answers[n++] = bench.memory(SOME_BYTES[i / 4], i % 4);
        }
        for (int i = 0; i < 2 * 4; i++) {
            answers[n++] = bench.report(i / 4, i % 4);
        }
        for (int i = 0; i < 2 * 6; i++) {
            answers[n++] = bench.block(1 + i / 6, i % 6);
        }
        answers[n++] = bench.output(0);
        answers[n++] = bench.output(1);
        return Arrays.copyOf(answers, n);
    }

    static void same(String name, int[] got, int[] want) {
        for (int i = 0; i < want.length; i++) {
            due(name + ": answer " + i + " of all", got[i], want[i]);
        }
    }

    static void register(ShadeBench bench, String name, int r, int value, int shade, int origin) {
        due(name + ": register(" + r + ", 0)", bench.register(r, 0), value);
        due(name + ": register(" + r + ", 1)", bench.register(r, 1), shade);
        due(name + ": register(" + r + ", 2)", bench.register(r, 2), origin);
    }

    static void memory(ShadeBench bench, String name, int a, int value, int shade, int origin, int open) {
        due(name + ": memory(" + a + ", 0)", bench.memory(a, 0), value);
        due(name + ": memory(" + a + ", 1)", bench.memory(a, 1), shade);
        due(name + ": memory(" + a + ", 2)", bench.memory(a, 2), origin);
        due(name + ": memory(" + a + ", 3)", bench.memory(a, 3), open);
    }

    static void report(ShadeBench bench, String name, int k, int kind, int place, int origin, int count) {
        due(name + ": report(" + k + ", 0)", bench.report(k, 0), kind);
        due(name + ": report(" + k + ", 1)", bench.report(k, 1), place);
        due(name + ": report(" + k + ", 2)", bench.report(k, 2), origin);
        due(name + ": report(" + k + ", 3)", bench.report(k, 3), count);
    }

    /** Numbers as the filling gives them, one after the other. */
    static int[] filling(int f, int count) {
        int[] numbers = new int[count];
        int s = f;
        for (int i = 0; i < count; i++) {
            s = s * 1664525 + 1013904223;
            numbers[i] = s ^ (s >>> 16);
        }
        return numbers;
    }
}
