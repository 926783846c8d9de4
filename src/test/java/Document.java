import java.io.IOException;
import java.nio.file.Files;
import java.nio.file.Path;
import java.util.ArrayList;
import java.util.LinkedHashMap;
import java.util.List;
import java.util.Map;
import java.util.regex.Matcher;
import java.util.regex.Pattern;

/**
 * The sentences of ../shared/DOC.md by its parts: "what it is", "section 1" to "section 8", "behind section 8" and
 * "promise 1" to "promise 65".
 */
final class Document {
    private static final Path FILE = Path.of("../shared/DOC.md");
    private static final Pattern SECTION = Pattern.compile("(\\d+)\\. .*");
    private static final Pattern PROMISE = Pattern.compile("## Promise (\\d+): .*");

    private final Map<String, List<String>> parts = new LinkedHashMap<>();
    private String part = "";

    private Document() {
    }

    static Map<String, List<String>> parts() throws IOException {
        Document document = new Document();
        for (String line : Files.readAllLines(FILE)) {
            document.take(line.trim());
        }
        document.parts.remove("");
        return document.parts;
    }

    private void take(String line) {
        Matcher section = SECTION.matcher(line);
        Matcher promise = PROMISE.matcher(line);
        if (section.matches()) {
            part = "section " + section.group(1);
        } else if (promise.matches()) {
            part = "promise " + promise.group(1);
        } else if (line.startsWith("#")) {
            part = line.equals("## What it is") ? "what it is" : "";
        } else if (!isSignature(line)) {
            if (line.startsWith("If several exceptions")) {
                part = "behind section 8";
            }
            addSentences(line);
        }
    }

    private static boolean isSignature(String line) {
        return line.isEmpty() || line.startsWith("----") || line.matches("`[^`]*\\(.*`");
    }

    private void addSentences(String line) {
        for (String sentence : line.split("(?<=\\.) +")) {
            parts.computeIfAbsent(part, key -> new ArrayList<>()).add(plain(sentence));
        }
    }

    /** Without what is there for the look alone. */
    private static String plain(String sentence) {
        return sentence.replaceAll("^- ", "").replace("`", "").replaceAll(" +", " ");
    }
}
