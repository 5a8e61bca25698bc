import java.io.IOException;
import java.nio.file.Files;
import java.nio.file.Path;
import java.nio.file.Paths;
import java.util.ArrayList;
import java.util.List;
import java.util.Set;
import java.util.TreeSet;
import java.util.regex.Matcher;
import java.util.regex.Pattern;

/** The words of ../shared/DOC.md: of each promise, and those for all of them. */
final class Document {
    private static final Path FILE = Paths.get("..", "shared", "DOC.md");
    private static final Pattern PROMISE = Pattern.compile("Promise (\\d+):.*");
    // The two dots of a range such as 0 .. 5 end no sentence.
    private static final String SENTENCE_END = "(?<=[^.][.;])\\s";

    private static final Pattern METHOD = Pattern.compile("public ([\\w ]+)\\(([^)]*)\\)(?: throws ([^;]*))?;");

    private String summary = "";
    private String face = "";
    private String terms = "";
    private final List<String> promises = new ArrayList<>();

    static Document read() throws IOException {
        Document document = new Document();
        for (String section : Files.readString(FILE).split("\n## ")) {
            int end = section.indexOf('\n');
            document.add(section.substring(0, end), plain(section.substring(end)));
        }
        return document;
    }

    private void add(String title, String words) {
        Matcher promise = PROMISE.matcher(title);
        if (promise.matches()) {
            while (promises.size() < Integer.parseInt(promise.group(1))) {
                promises.add("");
            }
            // What stands before this is the method's face, which FaceTest looks at.
            promises.set(Integer.parseInt(promise.group(1)) - 1, words.replaceFirst("^ ?`[^`]*`: ?", ""));
        } else if (title.equals("What it is")) {
            summary = words;
        } else if (title.equals("The public face")) {
            face = words;
        } else if (title.equals("Terms")) {
            terms = words;
        }
    }

    private static String plain(String text) {
        return text.replaceAll("```\\w*", "").replaceAll("\\s+", " ");
    }

    /** The constructor and the methods of the face: int tick(double) IllegalArgumentException. */
    Set<String> face() {
        Set<String> methods = new TreeSet<>();
        Matcher method = METHOD.matcher(face);
        while (method.find()) {
            String parameters = method.group(2).replaceAll("(\\w+) \\w+", "$1");
            String exceptions = method.group(3) == null ? "" : " " + method.group(3);
            methods.add(method.group(1) + "(" + parameters + ")" + exceptions.replaceAll(",|java\\.util\\.", ""));
        }
        return methods;
    }

    int promiseCount() {
        return promises.size();
    }

    boolean says(int promise, String words) {
        return summary.contains(words) || terms.contains(words) || ofPromise(promise).contains(words);
    }

    String ofPromise(int promise) {
        return promise >= 1 && promise <= promises.size() ? promises.get(promise - 1) : "";
    }

    String terms() {
        return terms;
    }

    /** The sentences, and parts of sentences, of the text that none of the quotes touches. */
    static List<String> untouched(String text, List<String> quotes) {
        boolean[] touched = new boolean[text.length()];
        for (String quote : quotes) {
            for (int at = text.indexOf(quote); at >= 0; at = text.indexOf(quote, at + 1)) {
                for (int i = at; i < at + quote.length(); i++) {
                    touched[i] = true;
                }
            }
        }
        List<String> left = new ArrayList<>();
        int from = 0;
        for (String sentence : text.split(SENTENCE_END)) {
            if (!sentence.isBlank() && !anyOf(touched, from, from + sentence.length())) {
                left.add(sentence.trim());
            }
            from += sentence.length() + 1;
        }
        return left;
    }

    private static boolean anyOf(boolean[] marks, int from, int to) {
        for (int i = from; i < to; i++) {
            if (marks[i]) {
                return true;
            }
        }
        return false;
    }
}
