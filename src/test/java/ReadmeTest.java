import java.io.IOException;
import java.lang.reflect.Method;
import java.lang.reflect.Modifier;
import java.nio.file.Files;
import java.nio.file.Paths;
import java.util.Arrays;
import java.util.List;
import java.util.regex.Matcher;
import java.util.regex.Pattern;
import java.util.stream.Collectors;

/** README.md tells the truth: its example answers as it says, and its table has the methods that are there. */
public final class ReadmeTest {
    private static final Pattern EXAMPLE = Pattern.compile("hall\\.(.*\\)); *// ([^: ]+): .*");

    private static int wrong = 0;

    public static void main(String[] args) throws IOException {
        List<String> lines = Files.readAllLines(Paths.get("README.md"));
        playExample(lines);
        lookForMethods(lines);
        System.out.println("README.md: " + wrong + " wrong");
        System.exit(wrong == 0 ? 0 : 1);
    }

    private static void tell(String what) {
        wrong++;
        System.out.println("README.md: " + what);
    }

    private static void playExample(List<String> lines) {
        SyncHall hall = new SyncHall();
        int calls = 0;
        for (String line : lines) {
            Matcher example = EXAMPLE.matcher(line);
            if (example.matches()) {
                calls++;
                String got = Calls.answer(hall, example.group(1));
                if (!got.equals(example.group(2))) {
                    tell(line + " but it answered " + got);
                }
            } else if (line.startsWith("hall.")) {
                tell("no answer is told in " + line);
            }
        }
        if (calls == 0) {
            tell("there is no example");
        }
    }

    private static void lookForMethods(List<String> lines) {
        List<Method> methods = Arrays.stream(SyncHall.class.getDeclaredMethods())
                .filter(method -> Modifier.isPublic(method.getModifiers())).collect(Collectors.toList());
        for (Method method : methods) {
            if (lines.stream().noneMatch(line -> tells(line, method))) {
                tell("the table lacks " + method);
            }
        }
        long rows = lines.stream().filter(line -> line.startsWith("| `")).count();
        if (rows != methods.size()) {
            tell("the table has " + rows + " methods, the class " + methods.size());
        }
    }

    private static boolean tells(String line, Method method) {
        String start = "| `" + method.getName() + "(";
        if (!line.startsWith(start)) {
            return false;
        }
        String inside = line.substring(start.length(), line.indexOf(')'));
        int parameters = inside.isEmpty() ? 0 : inside.split(",").length;
        return parameters == method.getParameterCount();
    }
}
