import java.io.IOException;
import java.nio.file.Files;
import java.nio.file.Path;
import java.util.List;

/** The README's example runs as it stands there, and every call of the face is told. */
public final class ReadmeTest {
    private static final List<String> FACE = List.of("feed", "end", "assemble", "fault", "begin", "input", "suppress",
            "run", "state", "register", "memory", "report", "output", "block", "twin");

    public static void main(String[] args) throws IOException {
        example();
        stands();
        Check.close();
    }

    private static void example() {
        ShadeBench bench = new ShadeBench();
        bench.feed(0x6c692072, 0x312c2037, 0x0a6f7574, 0x2072310a, 0);
        bench.end(16);
        int instructions = bench.assemble();
        bench.begin(5, 1);
        int steps = bench.run(1000);
        int value = bench.output(0);
        boolean same = bench.twin(9) == bench.state(8);
        Check.due("assemble()", instructions, 2);
        Check.due("run(1000)", steps, 2);
        Check.due("output(0)", value, 7);
        Check.due("twin(9) is state(8)", same, true);
    }

    /** What is run above is what the README has, but for its comments. */
    private static void stands() throws IOException {
        String readme = Files.readString(Path.of("README.md"));
        int from = readme.indexOf("```java\n") + 8;
        String shown = readme.substring(from, readme.indexOf("```", from));
        String source = Files.readString(Path.of("src/test/java/ReadmeTest.java"));
        int lines = 0;
        for (String line : shown.split("\n")) {
            String statement = line.replaceAll("\\s*//.*", "");
            Check.due("it is run: " + statement, source.contains("\n        " + statement + "\n"), true);
            lines++;
        }
        Check.due("lines of the example", lines, 8);
        for (String call : FACE) {
            Check.due("README.md tells " + call, readme.contains("`" + call + "("), true);
        }
    }
}
