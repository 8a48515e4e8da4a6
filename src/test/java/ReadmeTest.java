import java.io.IOException;
import java.nio.file.Files;
import java.nio.file.Path;
import java.util.ArrayList;
import java.util.List;
import java.util.Map;
import java.util.TreeSet;
import java.util.regex.Matcher;
import java.util.regex.Pattern;
import java.util.stream.Stream;

/** What README.md says is so: its examples, its tables, the tests it names. Run it in the project's folder. */
public final class ReadmeTest {
    private static final String MADE_ANEW = "SafeParts x = new SafeParts();";
    private static final Pattern A_CALL = Pattern.compile("x\\.(\\w+)\\(([-0-9, ]*)\\);\\s+// (-?\\w+)(: .+)?");
    private static final Pattern A_ROW_OF_CALLS = Pattern.compile("\\| `(\\w+)\\(([a-z, ]*)\\)` \\|([^|]+)\\|([^|]+)\\|");
    private static final Pattern A_ROW_OF_WHAT = Pattern.compile("\\| (\\d+) \\|(.*)\\|");
    private static final Pattern A_REFUSAL = Pattern.compile("\\b(UNKNOWN|OUTSIDE|NOT|FULL)\\b");
    private static final Pattern A_TEST = Pattern.compile("`(\\w+Test)`");
    private static final Map<String, Integer> CONSTANTS = Map.of("NONE", SafeParts.NONE, "NEVER", SafeParts.NEVER,
        "UNKNOWN", SafeParts.UNKNOWN, "OUTSIDE", SafeParts.OUTSIDE, "NOT", SafeParts.NOT, "FULL", SafeParts.FULL);
    private static final Check CHECK = new Check("ReadmeTest");

    public static void main(String[] args) throws IOException {
        String text = Files.readString(Path.of("README.md"));
        List<String> lines = text.lines().toList();
        theExamples(lines);
        theNumbersOfConstants(text);
        theTableOfCalls(lines);
        theTableOfWhat(lines);
        theTests(text);
        CHECK.end();
    }

    // ---- the examples

    private static void theExamples(List<String> lines) {
        TreeSet<String> seen = new TreeSet<>();
        SafeParts x = null;
        boolean inside = false;
        for (String line : lines) {
            if (line.startsWith("```")) {
                inside = line.equals("```java");
                x = null;
            } else if (inside && line.equals(MADE_ANEW)) {
                x = new SafeParts();
            } else if (inside) {
                oneCall(x, line, seen);
            }
        }
        for (int which = 0; which < Calls.HOW_MANY; which++) {
            CHECK.holds("an example calls " + Calls.name(which), seen.contains(Calls.name(which)));
        }
        for (String constant : CONSTANTS.keySet()) {
            CHECK.holds("an example is answered " + constant, seen.contains(constant));
        }
    }

    /** A line that is no call with its answer is a fault: nothing of an example goes untested. */
    private static void oneCall(SafeParts x, String line, TreeSet<String> seen) {
        Matcher call = A_CALL.matcher(line);
        boolean isCall = call.matches() && Calls.byName(call.group(1)) < Calls.HOW_MANY;
        CHECK.holds("a call of an object that was made, with its answer: " + line, x != null && isCall);
        if (x == null || !isCall) {
            return;
        }
        int which = Calls.byName(call.group(1));
        int[] numbers = numbers(call.group(2));
        CHECK.due("numbers that it takes: " + line, numbers.length, Calls.takes(which));
        if (numbers.length == Calls.takes(which)) {
            CHECK.due(line, Calls.call(x, which, numbers), answer(call.group(3)));
        }
        seen.add(call.group(1));
        seen.add(call.group(3));
    }

    private static int[] numbers(String text) {
        return Stream.of(text.split(", *")).filter(number -> !number.isBlank()).mapToInt(Integer::parseInt).toArray();
    }

    private static int answer(String word) {
        return CONSTANTS.containsKey(word) ? CONSTANTS.get(word) : Integer.parseInt(word);
    }

    private static void theNumbersOfConstants(String text) {
        for (Map.Entry<String, Integer> constant : CONSTANTS.entrySet()) {
            String words = "`" + constant.getKey() + "` (" + constant.getValue() + ")";
            CHECK.holds("README.md says " + words, text.contains(words));
        }
    }

    // ---- the tables

    private static void theTableOfCalls(List<String> lines) throws IOException {
        String source = Files.readString(Path.of("src", "main", "java", "SafeParts.java"));
        List<String> names = new ArrayList<>();
        for (String line : lines) {
            Matcher row = A_ROW_OF_CALLS.matcher(line);
            if (!row.matches()) {
                continue;
            }
            String name = row.group(1);
            names.add(name);
            String face = "public int " + name + "(" + row.group(2).replaceAll("(\\w+)", "int $1") + ") {";
            CHECK.holds("the class has " + face, source.contains(face));
            TreeSet<String> due = refusals(promiseOf(name));
            TreeSet<String> told = refusals(row.group(4));
            CHECK.holds(name + " refuses by " + told + ", in the document by " + due, due.isEmpty() || due.equals(told));
        }
        for (int which = 0; which < Calls.HOW_MANY; which++) {
            CHECK.holds("row " + which + " of the calls is " + Calls.name(which),
                which < names.size() && names.get(which).equals(Calls.name(which)));
        }
        CHECK.due("rows of the calls", names.size(), Calls.HOW_MANY);
    }

    private static TreeSet<String> refusals(String text) {
        TreeSet<String> found = new TreeSet<>();
        Matcher refusal = A_REFUSAL.matcher(text);
        while (refusal.find()) {
            found.add(refusal.group());
        }
        return found;
    }

    /** What the document promises of a call; every call has a refusal, so empty only without a document. */
    private static String promiseOf(String name) {
        Matcher promise = Pattern.compile("## Promise \\d+: " + name + " (.*?)(## |$)").matcher(Document.text());
        boolean found = promise.find();
        CHECK.holds("the document promises " + name, found || Document.text().isEmpty());
        return found ? promise.group(1) : "";
    }

    /** A cell has words where that number is answered, and none where it is OUTSIDE. */
    private static void theTableOfWhat(List<String> lines) {
        SafeParts x = Make.ring(2, 1, 1);
        x.event(0, 0, 0);
        x.finish();
        int rows = 0;
        for (String line : lines) {
            Matcher row = A_ROW_OF_WHAT.matcher(line);
            if (row.matches()) {
                CHECK.due("the number of " + line, Integer.parseInt(row.group(1)), rows);
                cellsOfWhat(x, rows, row.group(2).split("\\|", -1));
                rows++;
            }
        }
        cellsOfWhat(x, rows, new String[] {"", "", "", "", ""});
    }

    private static void cellsOfWhat(SafeParts x, int what, String[] cells) {
        int[] answers = {x.told(what), x.part(0, what), x.channelOf(0, what), x.record(0, what), x.inOrder(0, what)};
        CHECK.due("cells of what = " + what, cells.length, answers.length);
        for (int k = 0; k < Math.min(cells.length, answers.length); k++) {
            CHECK.due("what = " + what + ", cell " + k + " has no words", cells[k].isBlank() ? 1 : 0, answers[k] == SafeParts.OUTSIDE ? 1 : 0);
        }
    }

    // ---- the tests

    private static void theTests(String text) throws IOException {
        TreeSet<String> named = new TreeSet<>();
        Matcher test = A_TEST.matcher(text);
        while (test.find()) {
            named.add(test.group(1));
        }
        TreeSet<String> there = new TreeSet<>();
        try (Stream<Path> files = Files.list(Path.of("src", "test", "java"))) {
            files.map(file -> file.getFileName().toString()).filter(name -> name.endsWith("Test.java"))
                .forEach(name -> there.add(name.substring(0, name.indexOf('.'))));
        }
        CHECK.holds("README.md names " + named + ", there are " + there, named.equals(there));
    }
}
