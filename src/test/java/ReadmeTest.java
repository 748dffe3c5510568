import java.io.IOException;
import java.nio.file.Files;
import java.nio.file.Path;
import java.util.ArrayList;
import java.util.Arrays;
import java.util.List;
import java.util.Set;
import java.util.TreeSet;
import java.util.regex.Matcher;
import java.util.regex.Pattern;
import java.util.stream.Stream;

/** What README.md shows of the class's use answers as README.md says, and what it names is there. */
public final class ReadmeTest {
    private static final String NEW_OBJECT = "CutFiles x = new CutFiles();";
    private static final Pattern ROW = Pattern.compile("x\\.(\\w+)\\(([^)]*)\\); +// (-?\\d+|[A-Z]+)(:.*)?");
    private static final Pattern CALL_OF_TABLE = Pattern.compile(
        "\\| `(\\w+)\\(([^)]*)\\)` \\| [^|]+ \\| ([A-Z, ]+) \\|");
    private static final Set<String> SHOWN = new TreeSet<>();
    private static int wrong = 0;

    private ReadmeTest() {
    }

    public static void main(String[] args) throws IOException {
        List<String> lines = Files.readAllLines(Path.of("README.md"));
        examples(lines);
        table(lines);
        tests(String.join("\n", lines));
        due("the calls and answers that are shown", SHOWN, everyNameOfTheFace());
        due(".ci/run can be run", Files.isExecutable(Path.of(".ci", "run")), true);
        System.out.println(wrong == 0 ? "README.md is as the class is" : wrong + " parts of README.md are not as due");
        if (wrong != 0) {
            System.exit(1);
        }
    }

    private static void due(String what, Object is, Object want) {
        if (!is.equals(want)) {
            wrong++;
            System.out.println(what + ": " + is + ", due is " + want);
        }
    }

    private static void examples(List<String> lines) {
        boolean inJava = false;
        CutFiles x = null;
        for (String line : lines) {
            if (line.startsWith("```")) {
                inJava = line.equals("```java");
                x = null;
            } else if (line.equals(NEW_OBJECT)) {
                x = new CutFiles();
            } else if (inJava) {
                row(x, line);
            }
        }
    }

    private static void row(CutFiles x, String line) {
        Matcher row = ROW.matcher(line);
        due("README.md shows a call with its answer: " + line, row.matches() && x != null, true);
        if (row.matches() && x != null) {
            String[] words = row.group(2).split(", *");
            int[] arguments = new int[words.length];
            for (int i = 0; i < words.length; i++) {
                arguments[i] = number(words[i]);
            }
            due(line, Calls.answer(x, Calls.call(row.group(1), arguments)), number(row.group(3)));
            SHOWN.add(row.group(1));
            if (row.group(3).matches("[A-Z]+")) {
                SHOWN.add(row.group(3));
            }
        }
    }

    private static int number(String word) {
        return switch (word) {
            case "UNKNOWN" -> CutFiles.UNKNOWN;
            case "OUTSIDE" -> CutFiles.OUTSIDE;
            case "STATE" -> CutFiles.STATE;
            case "FULL" -> CutFiles.FULL;
            case "SPENT" -> CutFiles.SPENT;
            case "NONE" -> CutFiles.NONE;
            case "true" -> 1;
            case "false" -> 0;
            default -> Integer.parseInt(word);
        };
    }

    /** The table names the calls of the face in their order, with their arguments and what each may answer below 0. */
    private static void table(List<String> lines) throws IOException {
        List<String> calls = new ArrayList<>();
        for (String line : lines) {
            Matcher row = CALL_OF_TABLE.matcher(line);
            if (row.matches()) {
                calls.add("public int " + row.group(1) + "(" + row.group(2) + ");");
                int[] told = Calls.TOLD[Calls.kind(row.group(1))];
                int[] named = Stream.of(row.group(3).split(", ")).mapToInt(ReadmeTest::number).toArray();
                due(row.group(1) + " answers below 0", Arrays.toString(named), Arrays.toString(told));
            }
        }
        List<String> face = new ArrayList<>();
        for (String line : Document.face()) {
            if (line.startsWith("public int ")) {
                face.add(line.replaceAll("([(,] ?)(int|boolean) ", "$1"));
            }
        }
        due("the table of calls", calls, face);
    }

    private static Set<String> everyNameOfTheFace() throws IOException {
        Set<String> names = new TreeSet<>(Arrays.asList("UNKNOWN", "OUTSIDE", "STATE", "FULL", "SPENT", "NONE"));
        for (String line : Document.face()) {
            if (line.startsWith("public int ")) {
                names.add(line.substring("public int ".length(), line.indexOf('(')));
            }
        }
        return names;
    }

    private static void tests(String text) throws IOException {
        for (String where : new String[] {"java", "help"}) {
            try (Stream<Path> files = Files.list(Path.of("src", "test", where))) {
                for (Path file : files.toList()) {
                    String name = file.getFileName().toString().replace(".java", "");
                    due("README.md names " + name, text.contains("`" + name + "`"), true);
                }
            }
        }
        Matcher named = Pattern.compile("`(\\w+Test)`").matcher(text);
        while (named.find()) {
            Path file = Path.of("src", "test", "java", named.group(1) + ".java");
            due("there is " + named.group(1), Files.exists(file), true);
        }
    }
}
