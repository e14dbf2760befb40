import java.io.IOException;
import java.nio.file.Files;
import java.nio.file.Path;
import java.util.ArrayList;
import java.util.LinkedHashMap;
import java.util.List;
import java.util.Map;
import java.util.regex.Matcher;
import java.util.regex.Pattern;

/** The sentences of ../shared/DOC.md by the places that Sentence names; run in the project's folder. */
final class Document {
    private static final Pattern PROMISE = Pattern.compile("## Promise (\\d+):.*");
    private static final Pattern SECTION = Pattern.compile("([1-6])\\. [A-Z][a-z ]+");
    // The signature before a promise's first sentence.
    private static final String SIGNATURE = "^`[A-Za-z]+( [a-zA-Z]+)?\\(.*?`: ";

    private Document() {
    }

    static Map<String, List<String>> sentences() throws IOException {
        Map<String, List<String>> found = new LinkedHashMap<>();
        String place = "";
        for (String line : Files.readAllLines(Path.of("..", "shared", "DOC.md"))) {
            Matcher promise = PROMISE.matcher(line);
            Matcher section = SECTION.matcher(line);
            if (promise.matches()) {
                place = promise.group(1);
            } else if (line.startsWith("## ")) {
                place = line.equals("## What it is") ? "Top" : line.equals("## Terms") ? "T0" : "";
            } else if (place.startsWith("T") && section.matches()) {
                place = "T" + section.group(1);
            } else if (!place.isEmpty() && !line.isBlank()) {
                List<String> here = found.computeIfAbsent(place, k -> new ArrayList<>());
                here.addAll(List.of(line.replaceFirst(SIGNATURE, "").split("(?<=[.;]) ")));
            }
        }
        return found;
    }
}
