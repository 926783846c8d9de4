import java.io.IOException;
import java.nio.file.Files;
import java.nio.file.Path;
import java.util.ArrayList;
import java.util.Arrays;
import java.util.HashMap;
import java.util.HashSet;
import java.util.List;
import java.util.Map;
import java.util.Set;
import java.util.TreeMap;
import java.util.regex.Matcher;
import java.util.regex.Pattern;

/** Runs what README.md shows, and compares what it tells of the calls with the face that the document tells. */
public final class ReadmeTest {
    private static final Path README = Path.of("README.md");
    private static final Path DOCUMENT = Path.of("../shared/DOC.md");
    private static final Path OWN_SOURCE = Path.of("src/test/java/ReadmeTest.java");

    public static void main(String[] args) throws IOException {
        String readme = Files.readString(README);
        shownIsRun(readme);
        examples(readme);
        calls(readme);
        statements(readme);
        commands(readme);
        Check.end("ReadmeTest");
    }

    // ---- what it shows; these lines stand in README.md, too

    static void feed(ReliefBuilder builder, String text) {
        for (int i = 0; i < text.length(); i += 20) {
            builder.feed(four(text, i), four(text, i + 4), four(text, i + 8), four(text, i + 12), four(text, i + 16));
        }
        builder.truncate(text.length());
    }

    static int four(String text, int from) {
        int four = 0;
        for (int i = from; i < from + 4; i++) {
            four = four << 8 | (i < text.length() ? text.charAt(i) : ' ');
        }
        return four;
    }

    private static void examples(String readme) {
        Map<String, Object> got = new TreeMap<>();
        ReliefBuilder builder = new ReliefBuilder();
        feed(builder, "panel 3 2; wall 3; row 0 9 199;");
        int statements = builder.readText();
        int height = builder.height(0, 0);
        float light = builder.estimate(0, 0);
        int passes = builder.repair();
        int volume = builder.volume();
        got.putAll(Map.of("statements", statements, "height", height, "passes", passes, "volume", volume));
        got.put("light", light);
        builder.putStamp(2, 0, 1, 2, 3);
        feed(builder, "height 2 1 4; repeat 2 (stamp 2 0 0 0; ease;); mirror;");
        int done = builder.runScript();
        int left = builder.undo();
        got.putAll(Map.of("done", done, "left", left));
        feed(builder, "panel 3 2; row 0 9;");
        try {
            builder.readText();
        } catch (IllegalArgumentException e) {
            int code = builder.errorCode();
            int position = builder.errorPosition();
            got.putAll(Map.of("code", code, "position", position));
        }
        Map<String, Object> told = new TreeMap<>();
        Matcher line = Pattern.compile("\\w+ (\\w+) = [^\n]*;  // ([^\n]*)").matcher(readme);
        while (line.find()) {
            told.put(line.group(1), line.group(2));
        }
        Check.due("the answers of the examples", told.toString(), got::toString);
    }

    private static void shownIsRun(String readme) throws IOException {
        Set<String> own = new HashSet<>();
        for (String line : Files.readAllLines(OWN_SOURCE)) {
            own.add(line.trim());
        }
        int lines = 0;
        Matcher block = Pattern.compile("(?s)```java\n(.*?)```").matcher(readme);
        while (block.find()) {
            for (String line : block.group(1).split("\n")) {
                String code = line.replaceAll(" *// .*", "").trim();
                Check.due("run here: " + code, true, () -> code.isEmpty() || own.contains(code));
                lines++;
            }
        }
        int found = lines;
        Check.due("there are examples", true, () -> found > 30);
    }

    // ---- what it tells of the calls

    /** Each call with the names of its parameters, as "tone(x, y)", and the exceptions that it may throw, in order. */
    private static Map<String, List<String>> face() throws IOException {
        Map<String, List<String>> face = new TreeMap<>();
        Matcher line = Pattern.compile("    public \\w+ (\\w+)\\(([^)]*)\\)(?: throws ([\\w, ]+))?;")
                .matcher(Files.readString(DOCUMENT));
        while (line.find()) {
            String call = line.group(1) + "(" + line.group(2).replaceAll("int (\\w+)", "$1") + ")";
            face.put(call, line.group(3) == null ? List.of() : List.of(line.group(3).split(", ")));
        }
        return face;
    }

    private static void calls(String readme) throws IOException {
        Map<String, List<String>> told = new TreeMap<>();
        String table = readme.substring(readme.indexOf("| Calls |"));
        for (String row : table.substring(0, table.indexOf("\n\n")).split("\n")) {
            String[] columns = row.substring(1).split("\\|");
            Matcher call = Pattern.compile("`([^`]+)`").matcher(columns[0]);
            while (call.find()) {
                List<String> exceptions = new ArrayList<>();
                Matcher exception = Pattern.compile("\\w+Exception").matcher(columns[2]);
                while (exception.find()) {
                    exceptions.add(exception.group());
                }
                List<String> twice = told.put(call.group(1), exceptions);
                Check.due(call.group(1) + " stands there once", true, () -> twice == null);
            }
        }
        Map<String, List<String>> face = face();
        Check.due("the document has 64 methods", 64, face::size);
        Check.due("the calls and what they throw", face.toString(), told::toString);
    }

    // ---- what it tells of the texts

    /** What stands for a statement that is left out must make the object that an empty text makes. */
    private static void statements(String readme) {
        Matcher row = Pattern.compile("\n\\| `[a-z]+ [^|]*\\|[^|]*\\| `([^`]+)` \\|").matcher(readme);
        int rows = 0;
        while (row.find()) {
            String statement = row.group(1);
            Check.due("without " + statement, Check.look(new ReliefBuilder()),
                    () -> Check.look(Check.relief(statement + ";")));
            rows++;
        }
        int found = rows;
        Check.due("statements that may be left out", 4, () -> found);
    }

    /** Each command that it names is one, and there are no more. */
    private static void commands(String readme) {
        Map<String, String> numbers = new HashMap<>();
        for (String name : "X Y T H W R RACK PLACE".split(" ")) {
            numbers.put(name, "0");
        }
        numbers.putAll(Map.of("LIMIT", "1", "N", "1", "..", ""));
        String from = readme.substring(readme.indexOf("The commands are"));
        Matcher command = Pattern.compile("`([a-z][^`]*)`").matcher(from.substring(0, from.indexOf("brackets")));
        Set<String> words = new HashSet<>();
        while (command.find()) {
            StringBuilder text = new StringBuilder();
            for (String token : command.group(1).split(" ")) {
                text.append(numbers.getOrDefault(token, token)).append(' ');
            }
            Check.due(text + "is a command", true, () -> Check.run(new ReliefBuilder(), text + ";") >= 0);
            words.add(command.group(1).split(" ")[0]);
        }
        Set<String> due = new HashSet<>(Arrays.asList(("tone height fill stamp smooth repair ease dither polish invert"
                + " mirror repeat").split(" ")));
        Check.due("the commands", due, () -> words);
    }
}
