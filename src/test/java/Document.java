import java.io.IOException;
import java.nio.file.Files;
import java.nio.file.Path;
import java.util.ArrayList;
import java.util.List;
import java.util.TreeSet;

/** The sentences of the document, each under its paragraph ("Land") or its promise ("Promise 2"). */
final class Document {
    private static final Path FILE = Path.of("../shared/DOC.md");

    private final TreeSet<String> sentences = new TreeSet<>();
    private final TreeSet<String> tested = new TreeSet<>();

    Document() throws IOException {
        String heading = "";
        for (String line : Files.readAllLines(FILE)) {
            if (line.startsWith("## ")) {
                heading = line.substring(3).replaceAll(":.*", "");
            } else if (heading.startsWith("Promise")) {
                addLine(heading, line);
            } else if (!line.isEmpty()) {
                addParagraph(heading, line);
            }
        }
    }

    private void addLine(String heading, String line) {
        int description = line.indexOf("`: ");
        boolean isPlain = line.startsWith("- ") || description < 0;
        if (!line.isEmpty()) {
            sentences.add(heading + " | " + (isPlain ? line : line.substring(description + 3)));
        }
    }

    /** A paragraph of the terms begins with its name. */
    private void addParagraph(String heading, String line) {
        String place = heading.equals("Terms") ? line.replaceAll("[.:].*", "") : heading;
        for (String sentence : line.split("(?<=\\.) ")) {
            sentences.add(place + " | " + sentence);
        }
    }

    /** Runs the test of a sentence, which must stand there to the letter. */
    void test(String place, String sentence, Checks.Call test) {
        String whole = place + " | " + sentence;
        if (!sentences.contains(whole)) {
            Checks.tell("not in the document: " + whole);
        }
        tested.add(whole);
        Checks.standAt(whole + "\n    ");
        Checks.holds("the whole test", test);
        Checks.standAt("");
    }

    /** Tells the sentences that match the pattern and have no test. */
    void needTests(String pattern) {
        List<String> due = new ArrayList<>();
        for (String whole : sentences) {
            if (whole.matches(pattern)) {
                due.add(whole);
            }
        }
        if (due.isEmpty()) {
            Checks.tell("no sentence matches " + pattern);
        }
        due.removeAll(tested);
        for (String whole : due) {
            Checks.tell("has no test: " + whole);
        }
    }
}
