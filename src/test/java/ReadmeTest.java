import java.io.IOException;
import java.nio.file.Files;
import java.nio.file.Path;

/** The example of README.md: its calls stand there, and answer what it says. */
public final class ReadmeTest {
    private static final Check CHECK = new Check("ReadmeTest");

    public static void main(String[] args) throws IOException {
        example();
        calls(Files.readString(Path.of("README.md")));
        CHECK.end();
    }

    private static void example() {
        HornBench bench = new HornBench();
        CHECK.same("feed", bench.feed(0x70283129, 0x2e207028, 0x32292e20, 0x20202020, 0x20202020), 20);
        CHECK.same("consult", bench.consult(), 0);
        CHECK.same("feed", bench.feed(0x70285829, 0x2e202020, 0x20202020, 0x20202020, 0x20202020), 20);
        CHECK.same("ask", bench.ask(), 0);
        CHECK.same("run", bench.run(10), 1);
        CHECK.same("status", bench.status(), 1);
        CHECK.same("X", bench.number(0), 1);
        CHECK.same("run again", bench.run(10), 1);
        CHECK.same("X again", bench.number(0), 2);
        CHECK.same("run at the end", bench.run(10), 0);
        CHECK.same("status at the end", bench.status(), 2);
    }

    private static void calls(String readme) {
        String[] due = {"feed(0x70283129, 0x2e207028, 0x32292e20, 0x20202020, 0x20202020)",
            "feed(0x70285829, 0x2e202020, 0x20202020, 0x20202020, 0x20202020)", "consult()", "ask()", "run(10)",
            "number(0)", "feed(a, b, c, d, e)", "trim(n)", "add()", "errorAt()", "drop(clause)", "count(what)",
            "clause(clause, what)", "run(steps)", "status()", "write(variable)", "writeGoal()", "byteAt(k)",
            "number(variable)", "isSame(a, b)", "stepsEach()", "digest()"};
        for (String one : due) {
            CHECK.isTrue("README.md tells of " + one, readme.contains(one));
        }
    }
}
