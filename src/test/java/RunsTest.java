import java.io.IOException;
import java.nio.file.Files;
import java.nio.file.Path;
import java.nio.file.Paths;
import java.util.List;
import java.util.stream.Collectors;
import java.util.stream.Stream;

/**
 * Runs the files under src/test/runs, one or more for each promise. A line is a call with the answer
 * that is due, a line "new" begins a run on a new object, and # begins a comment.
 */
public final class RunsTest {
    private static final int PROMISES = 14;
    private static final Path RUNS = Paths.get("src", "test", "runs");

    private int calls = 0;
    private int wrong = 0;

    public static void main(String[] args) throws IOException {
        RunsTest test = new RunsTest();
        List<Path> files = runFiles();
        for (Path file : files) {
            test.runFile(file);
        }
        test.wantEveryPromise(files);
        System.out.println(test.calls + " calls in " + files.size() + " files, " + test.wrong + " wrong");
        System.exit(test.wrong == 0 ? 0 : 1);
    }

    private static List<Path> runFiles() throws IOException {
        try (Stream<Path> files = Files.list(RUNS)) {
            return files.filter(file -> file.toString().endsWith(".txt")).sorted().collect(Collectors.toList());
        }
    }

    private void wantEveryPromise(List<Path> files) {
        for (int promise = 1; promise <= PROMISES; promise++) {
            String prefix = String.format("%02d-", promise);
            if (files.stream().noneMatch(file -> file.getFileName().toString().startsWith(prefix))) {
                fail("promise " + promise + " has no runs");
            }
        }
    }

    private void runFile(Path file) throws IOException {
        SyncHall hall = null;
        int number = 0;
        for (String whole : Files.readAllLines(file)) {
            number++;
            String line = whole.replaceAll("#.*", "").trim();
            if (line.equals("new")) {
                hall = new SyncHall();
            } else if (!line.isEmpty()) {
                runLine(file.getFileName() + ":" + number, hall, line);
            }
        }
    }

    private void runLine(String place, SyncHall hall, String line) {
        int equals = line.lastIndexOf('=');
        String call = line.substring(0, equals).trim();
        String due = line.substring(equals + 1).trim();
        String got = Calls.answer(hall, call);
        calls++;
        if (!got.equals(due)) {
            fail(place + ": " + call + " answered " + got + ", due is " + due);
        }
    }

    private void fail(String text) {
        wrong++;
        System.out.println(text);
    }
}
