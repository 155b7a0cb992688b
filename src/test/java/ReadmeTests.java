import java.io.IOException;
import java.io.UncheckedIOException;
import java.nio.file.Files;
import java.nio.file.Path;
import java.util.ArrayList;
import java.util.LinkedHashMap;
import java.util.List;
import java.util.Map;
import java.util.TreeMap;
import java.util.regex.Matcher;
import java.util.regex.Pattern;

/** What README.md says of the class holds: its examples answer as told, its tables are those of the class. */
public final class ReadmeTests implements Words {
    private static final String README = read("readme", "README.md");
    private static final String DOCUMENT = read("document", "../shared/DOC.md");
    private static final Pattern EXAMPLE = Pattern.compile("(?m)^x\\.(\\w+)\\(([^)]*)\\);\\s+// (-?\\w+): \\S");
    private static final Pattern CALL_ROW = Pattern.compile("(?m)^\\| `(\\w+)\\(([^)]*)\\)` \\|(.*)\\|$");
    private static final Pattern PROMISE = Pattern.compile("(?m)^`(?:int|long) (\\w+)\\(([^)]*)\\)`: (.*)$");
    private static final Pattern REFUSAL =
        Pattern.compile("\\b(UNKNOWN|OUTSIDE|STATE|FULL|NONE|LOST|NULL|CAST|INDEX|SIZE)\\b");
    private static final String[] REFUSAL_NAMES = {"UNKNOWN", "OUTSIDE", "STATE", "FULL"};
    private static final String[] FAULT_NAMES = {"NULL", "CAST", "INDEX", "SIZE"};

    private ReadmeTests() {
    }

    private static String read(String property, String otherwise) {
        try {
            return Files.readString(Path.of(System.getProperty(property, otherwise)));
        } catch (IOException e) {
            throw new UncheckedIOException(e);
        }
    }

    private static long[] numbersOf(String args) {
        if (args.isBlank()) return new long[0];
        String[] each = args.split(", ");
        long[] numbers = new long[each.length];
        for (int i = 0; i < each.length; i++) numbers[i] = Long.parseLong(each[i]);
        return numbers;
    }

    private static long answerOf(String word) throws ReflectiveOperationException {
        if (!Character.isLetter(word.charAt(0))) return Long.parseLong(word);
        return ((Number) NeverBelow.class.getField(word).get(null)).longValue();
    }

    private static void mustHold(String what, boolean holds) {
        Sentences.holds(what, holds ? 1 : 0, 1);
    }

    @Says("README: the examples, made one behind another, answer what is told behind them")
    static void examples() throws ReflectiveOperationException {
        Bench x = new Bench();
        Matcher lines = EXAMPLE.matcher(README);
        while (lines.find()) x.due(answerOf(lines.group(3)), lines.group(1), numbersOf(lines.group(2)));
        mustHold("there are examples", x.many() > 0);
        long written = README.lines().filter(line -> line.startsWith("x.")).count();
        Sentences.holds("lines of examples that tell an answer", x.many(), written);
    }

    @Says("README: a new object is made once, ahead of the examples")
    static void newObject() {
        String[] around = README.split("NeverBelow x = new NeverBelow\\(\\);", -1);
        Sentences.holds("new objects", around.length - 1, 1);
        mustHold("no example ahead of it", !EXAMPLE.matcher(around[0]).find());
    }

    @Says("README: the table of all calls is the face, its parameters named as in the document")
    static void allCalls() {
        Map<String, String> rows = new TreeMap<>();
        Matcher row = CALL_ROW.matcher(README);
        while (row.find()) mustHold(row.group(1) + " has one row", rows.put(row.group(1), row.group(2)) == null);
        Map<String, String> promised = new TreeMap<>();
        Matcher promise = PROMISE.matcher(DOCUMENT);
        while (promise.find()) promised.put(promise.group(1), promise.group(2).replaceAll("(int|long) ", ""));
        mustHold("rows " + rows + " are the promises " + promised, rows.equals(promised));
        mustHold("rows are the face's methods", rows.keySet().equals(Bench.names()));
    }

    @Says("README: each call's refusals and FAULTS are those of its promise, in the same order")
    static void refusalsOfCalls() {
        Map<String, List<String>> due = new LinkedHashMap<>();
        Matcher promise = PROMISE.matcher(DOCUMENT);
        while (promise.find()) due.put(promise.group(1), refusalsIn(promise.group(3)));
        Matcher row = CALL_ROW.matcher(README);
        while (row.find()) {
            List<String> told = refusalsIn(row.group(3));
            mustHold(row.group(1) + ": " + told + " is " + due.get(row.group(1)), told.equals(due.get(row.group(1))));
        }
    }

    /** What stands in brackets tells of answers, not of refusals. */
    private static List<String> refusalsIn(String text) {
        List<String> words = new ArrayList<>();
        Matcher word = REFUSAL.matcher(text.replaceAll("\\([^)]*\\)", ""));
        while (word.find()) words.add(word.group());
        return words;
    }

    @Says("README: the table of REFUSALS has the class's numbers and names")
    static void refusals() throws ReflectiveOperationException {
        for (String name : REFUSAL_NAMES) {
            mustHold(name, README.contains("\n| " + answerOf(name) + " | `" + name + "` | "));
        }
        mustHold("NONE", README.contains("\n`NONE` (" + answerOf("NONE") + ") "));
        Sentences.holds("LOST, the least long", answerOf("LOST"), Long.MIN_VALUE);
    }

    @Says("README: the table of FAULTS has the document's numbers and names")
    static void faults() {
        for (int fault = 1; fault <= FAULT_NAMES.length; fault++) {
            String name = FAULT_NAMES[fault - 1];
            mustHold(name, README.contains("\n| " + (-10 - fault) + " | " + fault + " | " + name + " | "));
            mustHold(name + " is so numbered in the document", DOCUMENT.contains(fault + " " + name));
        }
    }

    @Says("README: it tells how the tests are run, and of each of them")
    static void tests() throws IOException {
        mustHold("how they are run", README.contains("\n.ci/run\n"));
        Path here = Path.of(System.getProperty("readme", "README.md")).toAbsolutePath().getParent();
        try (var files = Files.list(here.resolve("src/test/java"))) {
            for (Path file : files.sorted().toList()) {
                String name = file.getFileName().toString().replace(".java", "");
                mustHold(name, README.contains("`" + name + "`"));
            }
        }
    }

    public static void main(String[] args) throws Exception {
        Sentences.runAll(ReadmeTests.class);
    }
}
