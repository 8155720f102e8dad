import java.io.IOException;
import java.lang.reflect.Field;
import java.lang.reflect.Method;
import java.lang.reflect.Modifier;
import java.nio.file.Files;
import java.nio.file.Path;
import java.util.ArrayList;
import java.util.List;
import java.util.TreeMap;
import java.util.TreeSet;
import java.util.regex.MatchResult;
import java.util.regex.Matcher;
import java.util.regex.Pattern;
import java.util.stream.Collectors;
import java.util.stream.Stream;
import javax.tools.ToolProvider;

/** What README.md says of the class: its example is compiled and run, its tables are compared with the class and the document. */
public final class ReadmeTest {
    private static final String ERROR_NAME = "\\b(UNKNOWN|BAD_VALUE|FULL|NOT_POSSIBLE|NONE)\\b";
    private static final Pattern PROMISE =
            Pattern.compile("^## Promise \\d+: (\\w+)\\n\\n`\\w+ \\w+\\(([^)]*)\\)`:(.*?)(?=^## )", Pattern.MULTILINE | Pattern.DOTALL);
    private static final Pattern CALL_ROW = Pattern.compile("^\\| `(\\w+)\\(([^)]*)\\)` (\\|.*\\|)$", Pattern.MULTILINE);
    private static final Pattern CONSTANT_ROW = Pattern.compile("^\\| `([A-Z_]+)` \\| (-\\d+) \\| .* \\|$", Pattern.MULTILINE);
    private static final Pattern WHAT_ROW = Pattern.compile("^\\| (\\d+) (\\|.*\\|)$", Pattern.MULTILINE);
    private static final Pattern ANSWER_LINE = Pattern.compile("^(?:int|float) (\\w+) = .*;\\s*// ('.'|[^:]+): .+$");

    private ReadmeTest() {
    }

    private static void alike(String label, Object got, Object want) {
        Due.is("README.md, " + label + ": it says " + got + ", so is " + want + ", alike", got.equals(want) ? 1 : 0, 1);
    }

    private static List<String> found(String pattern, String text) {
        return Pattern.compile(pattern).matcher(text).results().map(result -> result.group(1)).collect(Collectors.toList());
    }

    /** The cells of a row of a table, from its first bar to its last. */
    private static List<String> cells(String row) {
        List<String> cells = new ArrayList<>();
        for (String cell : row.substring(1, row.length() - 1).split("\\|", -1)) {
            cells.add(cell.trim());
        }
        return cells;
    }

    /** Compiles and runs the example, with a look at each answer behind the line that tells it. */
    private static void example(String readme) throws IOException, ReflectiveOperationException {
        String block = readme.substring(readme.indexOf("```java\n") + 8, readme.indexOf("\n```\n"));
        StringBuilder code = new StringBuilder("public final class ReadmeExample {\n    public static void main(String[] args) {\n");
        for (String line : block.split("\n")) {
            code.append(line).append('\n');
            Matcher answer = ANSWER_LINE.matcher(line);
            if (answer.matches()) {
                String name = answer.group(1);
                code.append("Due.is(\"README.md, example: ").append(name).append("\", ");
                code.append(name).append(", ").append(answer.group(2)).append(");\n");
            } else {
                boolean tellsNothing = !line.contains("= keys.");
                alike("example, the answer is told in \"" + line + "\"", tellsNothing, true);
            }
        }
        Path classes = Path.of(System.getProperty("java.class.path"));
        Path file = classes.resolve("ReadmeExample.java");
        Files.writeString(file, code.append("    }\n}\n"));
        int compiled = ToolProvider.getSystemJavaCompiler()
                .run(null, null, null, "-cp", classes.toString(), "-d", classes.toString(), file.toString());
        alike("the example compiles", compiled, 0);
        if (compiled == 0) {
            Class.forName("ReadmeExample").getMethod("main", String[].class).invoke(null, (Object) new String[0]);
        }
    }

    private static TreeSet<String> callsOfTheClass() {
        TreeSet<String> calls = new TreeSet<>();
        for (Method method : BlanketKeys.class.getDeclaredMethods()) {
            if (Modifier.isPublic(method.getModifiers())) {
                calls.add(method.getName() + " of " + method.getParameterCount());
            }
        }
        return calls;
    }

    /** Each call has one row, with the parameters, the act and the errors, in their order, that the document tells of it. */
    private static void calls(String readme, String doc) {
        TreeMap<String, MatchResult> promises = new TreeMap<>();
        Matcher promise = PROMISE.matcher(doc);
        while (promise.find()) {
            promises.put(promise.group(1), promise.toMatchResult());
        }
        TreeSet<String> told = new TreeSet<>();
        Matcher row = CALL_ROW.matcher(readme);
        while (row.find()) {
            String name = row.group(1);
            List<String> cells = cells(row.group(3));
            alike(name + ", cells", cells.size(), 4);
            int parameters = row.group(2).isEmpty() ? 0 : row.group(2).split(", ").length;
            alike(name + ", first row of it", told.add(name + " of " + parameters), true);
            MatchResult due = promises.get(name);
            if (due == null || cells.size() != 4) {
                alike(name + ", is promised", due != null, true);
                continue;
            }
            String promised = due.group(3);
            alike(name + ", parameters", row.group(2), due.group(2).replaceAll("\\w+ (\\w+)", "$1"));
            alike(name + ", act", cells.get(1).equals("yes"), promised.matches("(?s).*This is (an|one) act\\..*"));
            String returns = promised.substring(promised.indexOf("Returns "));
            alike(name + ", errors", found(ERROR_NAME, cells.get(3)), found(ERROR_NAME, returns));
        }
        alike("calls", told, callsOfTheClass());
    }

    private static void constants(String readme) throws IllegalAccessException {
        TreeMap<String, Integer> told = new TreeMap<>();
        TreeMap<String, Integer> due = new TreeMap<>();
        Matcher row = CONSTANT_ROW.matcher(readme);
        while (row.find()) {
            told.put(row.group(1), Integer.valueOf(row.group(2)));
        }
        for (Field field : BlanketKeys.class.getDeclaredFields()) {
            if (Modifier.isPublic(field.getModifiers())) {
                due.put(field.getName(), field.getInt(null));
            }
        }
        alike("constants", told, due);
    }

    private static int[] answers(BlanketKeys x, int what) {
        return new int[] {x.key(0, what), x.typist(0, what), x.stroke(0, what), x.dispute(0, what), x.count(what)};
    }

    /** A cell is filled if the call knows the number, and the table ends where no call knows one. */
    private static void whats(String readme) {
        BlanketKeys x = new BlanketKeys();
        x.set(0, Float.floatToRawIntBits(2.0f));
        x.press(0, 1);
        x.tick(4);
        x.release(0, 1);
        x.tick(4);
        alike("a dispute to ask for", x.count(10), 1);
        int what = 0;
        Matcher row = WHAT_ROW.matcher(readme);
        while (row.find()) {
            alike("number of the row", row.group(1), Integer.toString(what));
            List<String> cells = cells(row.group(2));
            int[] answers = answers(x, what);
            alike("cells of " + what, cells.size(), answers.length);
            for (int column = 0; column < answers.length && column < cells.size(); column++) {
                boolean isKnown = answers[column] != BlanketKeys.BAD_VALUE;
                alike("what " + what + ", column " + column, !cells.get(column).isEmpty(), isKnown);
            }
            what++;
        }
        for (int answer : answers(x, what)) {
            alike("behind the table", answer, BlanketKeys.BAD_VALUE);
        }
    }

    private static void tests(String readme) throws IOException {
        TreeSet<String> told = new TreeSet<>(found("\\b([A-Z]\\w+Test)\\b", readme));
        try (Stream<Path> files = Files.list(Path.of("src/test/java"))) {
            TreeSet<String> due = files.map(file -> file.getFileName().toString()).filter(name -> name.endsWith("Test.java"))
                    .map(name -> name.substring(0, name.length() - 5)).collect(Collectors.toCollection(TreeSet::new));
            alike("tests", told, due);
        }
    }

    public static void main(String[] args) throws IOException, ReflectiveOperationException {
        String readme = Files.readString(Path.of("README.md"));
        String doc = Files.readString(Path.of("../shared/DOC.md"));
        example(readme);
        calls(readme, doc);
        constants(readme);
        whats(readme);
        tests(readme);
        Due.tell();
    }
}
