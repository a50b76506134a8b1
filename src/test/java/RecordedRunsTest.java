import java.io.IOException;
import java.nio.file.Files;
import java.nio.file.Path;
import java.util.ArrayList;
import java.util.List;
import java.util.stream.Stream;

/**
 * Runs of calls with the answers of src/test/model, a second bench that was written from the
 * document alone. A file is rows "new", behind which a new object is used, and
 * "call arguments -> answer", where an answer can be the name of an exception without its
 * "Exception". The argument is a file, or the folder with the files.
 */
public final class RecordedRunsTest {
    private static final Check CHECK = new Check("RecordedRunsTest");

    public static void main(String[] args) throws IOException {
        List<Path> files = new ArrayList<>();
        try (Stream<Path> found = Files.walk(Path.of(args[0]))) {
            found.filter(path -> path.toString().endsWith(".txt")).sorted().forEach(files::add);
        }
        CHECK.isTrue("there are recorded runs", !files.isEmpty());
        for (Path file : files) {
            replay(file.getFileName().toString(), Files.readAllLines(file));
        }
        CHECK.end();
    }

    private static void replay(String file, List<String> lines) {
        HornBench bench = new HornBench();
        boolean right = true;
        for (int k = 0; k < lines.size(); k++) {
            String line = lines.get(k);
            if (line.equals("new")) {
                bench = new HornBench();
                right = true;
            } else if (right) {
                String[] sides = line.split(" -> ");
                String got = answer(bench, sides[0].split(" "));
                // Behind a wrong answer of a run, those that follow tell nothing.
                right = got.equals(sides[1]);
                CHECK.same(file + " line " + (k + 1) + ": " + sides[0], got, sides[1]);
            }
        }
    }

    private static String answer(HornBench bench, String[] call) {
        int[] n = new int[5];
        for (int k = 1; k < call.length; k++) {
            n[k - 1] = Integer.parseInt(call[k]);
        }
        try {
            switch (call[0]) {
                case "isSame": return bench.isSame(n[0], n[1]) ? "1" : "0";
                case "stepsEach": return String.valueOf(bench.stepsEach());
                case "digest": return String.valueOf(bench.digest());
                default: return String.valueOf(number(bench, call[0], n));
            }
        } catch (RuntimeException e) {
            return e.getClass().getSimpleName().replace("Exception", "");
        }
    }

    private static int number(HornBench bench, String call, int[] n) {
        switch (call) {
            case "feed": return bench.feed(n[0], n[1], n[2], n[3], n[4]);
            case "trim": return bench.trim(n[0]);
            case "consult": return bench.consult();
            case "add": return bench.add();
            case "drop": return bench.drop(n[0]);
            case "errorAt": return bench.errorAt();
            case "count": return bench.count(n[0]);
            case "clause": return bench.clause(n[0], n[1]);
            case "ask": return bench.ask();
            case "run": return bench.run(n[0]);
            case "status": return bench.status();
            case "write": return bench.write(n[0]);
            case "writeGoal": return bench.writeGoal();
            case "byteAt": return bench.byteAt(n[0]);
            case "number": return bench.number(n[0]);
            default: throw new IllegalStateException("no such call: " + call);
        }
    }
}
