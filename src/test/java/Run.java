import java.io.IOException;
import java.nio.file.Files;
import java.nio.file.Path;
import java.nio.file.Paths;
import java.util.ArrayList;
import java.util.List;
import java.util.regex.Matcher;
import java.util.regex.Pattern;
import java.util.stream.Collectors;
import java.util.stream.Stream;

/** Calls on one new object, each with the answer that is due, as the files under src/test write them. */
final class Run {
    record Step(String place, String call, String due) {
    }

    private static final int MOST_CALLS = 512;
    private static final Pattern HEADING = Pattern.compile("Promise \\d+: .*");
    private static final Pattern STEP = Pattern.compile("(?:(\\d+) x )?(.*\\)) = (\\S+)");

    final String file;
    final String heading;
    final List<Step> steps = new ArrayList<>();

    private Run(String file, String heading) {
        this.file = file;
        this.heading = heading;
    }

    /** All runs of all files of a folder under src/test, by the files' names. */
    static List<Run> all(String folder) throws IOException {
        List<Run> runs = new ArrayList<>();
        for (Path file : files(folder)) {
            runs.addAll(read(file));
        }
        return runs;
    }

    private static List<Path> files(String folder) throws IOException {
        try (Stream<Path> files = Files.list(Paths.get("src", "test", folder))) {
            return files.filter(file -> file.toString().endsWith(".txt")).sorted().collect(Collectors.toList());
        }
    }

    private static List<Run> read(Path path) throws IOException {
        String file = path.getFileName().toString();
        List<Run> runs = new ArrayList<>();
        String heading = "";
        int number = 0;
        for (String whole : Files.readAllLines(path)) {
            number++;
            String line = whole.replaceAll("#.*", "").trim();
            if (HEADING.matcher(line).matches()) {
                heading = line;
                runs.add(new Run(file, heading));
            } else if (line.equals("new")) {
                runs.add(new Run(file, heading));
            } else if (!line.isEmpty()) {
                runs.get(runs.size() - 1).add(file + ":" + number, line);
            }
        }
        return runs;
    }

    private void add(String place, String line) {
        Matcher step = STEP.matcher(line);
        if (!step.matches()) {
            throw new AssertionError(place + " is no call with an answer: " + line);
        }
        int times = step.group(1) == null ? 1 : Integer.parseInt(step.group(1));
        for (int i = 0; i < times; i++) {
            steps.add(new Step(place, step.group(2), step.group(3)));
        }
    }

    int promise() {
        return Integer.parseInt(file.substring(0, 2));
    }

    /** Makes the calls, and tells of each answer that is not the one that is due. */
    List<String> wrongAnswers() {
        List<String> wrong = new ArrayList<>();
        if (steps.size() > MOST_CALLS) {
            wrong.add(file + " has a run of more than " + MOST_CALLS + " calls");
        }
        SyncHall hall = new SyncHall();
        for (Step step : steps) {
            String got = Calls.answer(hall, step.call());
            if (!got.equals(step.due())) {
                wrong.add(step.place() + ": " + step.call() + " answered " + got + ", due is " + step.due());
            }
        }
        return wrong;
    }
}
