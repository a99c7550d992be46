import java.io.IOException;
import java.nio.file.Files;
import java.nio.file.Path;
import java.util.ArrayList;
import java.util.LinkedHashMap;
import java.util.List;
import java.util.Map;
import java.util.regex.Matcher;
import java.util.regex.Pattern;

/**
 * The document's sentences, and the scripts that test them. A sentence is crossed out where it stands once it is
 * tested, so that at the end a sentence without a test shows.
 */
final class Sentences {
    private static final Path DOCUMENT = Path.of("../shared/DOC.md");
    private static final Pattern EXAMPLE = Pattern.compile("- ([a-z]\\w*\\([^`]*?)(?= - |\\s*$)");
    private static final String CROSSED_OUT = "#";
    private static final int PROMISES = 38;

    private final Map<String, String> sections = new LinkedHashMap<>();
    private int wrong = 0;

    Sentences() throws IOException {
        for (String section : Files.readString(DOCUMENT).split("(?m)^## ")) {
            int lineEnd = section.indexOf('\n');
            String heading = section.substring(0, lineEnd).replaceAll(":.*", "");
            String body = section.substring(lineEnd).replaceAll("(?m)^`[^`]*`$", "");
            sections.put(heading, body.replaceAll("\\s+", " "));
        }
    }

    int wrong() {
        return wrong;
    }

    /** Tests a sentence of a promise: each script runs on a new object. */
    void promise(int number, String words, String... scripts) {
        test("Promise " + number, words, scripts);
    }

    void description(String words, String... scripts) {
        test("Description", words, scripts);
    }

    void opening(String words, String... scripts) {
        test("What it is", words, scripts);
    }

    private void test(String heading, String words, String... scripts) {
        crossOut(heading, words);
        for (String script : scripts) {
            for (String line : new Script(script).run()) {
                complain(heading, "\"" + words + "\" " + line);
            }
        }
    }

    private void crossOut(String heading, String words) {
        String section = sections.getOrDefault(heading, "");
        int place = section.indexOf(words);
        if (place < 0) {
            complain(heading, "the document does not say, or says no further time: " + words);
            return;
        }
        sections.put(heading, section.substring(0, place) + CROSSED_OUT + section.substring(place + words.length()));
    }

    private void complain(String heading, String line) {
        wrong++;
        System.out.println(heading + ": " + line);
    }

    /** Runs the document's examples as they are written there. */
    void runExamples(int count) {
        String description = sections.get("Description");
        int start = description.indexOf("Examples:");
        int end = description.indexOf("The constants:");
        List<String> examples = new ArrayList<>();
        Matcher example = EXAMPLE.matcher(description.substring(start, end));
        while (example.find()) {
            examples.add(example.group(1));
        }
        if (examples.size() != count) {
            complain("Description", "there are " + examples.size() + " examples, not " + count);
        }
        for (String script : examples) {
            description(script, script);
        }
    }

    /** Complains of each word of the tested sections that no test has crossed out. */
    void complainOfUntested() {
        int promises = 0;
        for (Map.Entry<String, String> section : sections.entrySet()) {
            boolean isPromise = section.getKey().matches("Promise \\d+");
            promises += isPromise ? 1 : 0;
            boolean tested = isPromise || section.getKey().equals("Description");
            if (tested && !section.getValue().matches("[-# ]*")) {
                complain(section.getKey(), "not tested: " + section.getValue());
            }
        }
        if (promises != PROMISES) {
            complain("the document", "there are " + promises + " promises, not " + PROMISES);
        }
    }
}
