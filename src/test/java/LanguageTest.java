import java.io.IOException;
import java.nio.file.Files;
import java.nio.file.Path;
import java.util.ArrayList;
import java.util.Arrays;
import java.util.HashSet;
import java.util.List;
import java.util.Map;
import java.util.Set;
import java.util.TreeMap;
import java.util.regex.Matcher;
import java.util.regex.Pattern;

/**
 * The class keeps to ../shared/LANGUAGE.md, as far as its source shows that; FaceTest asks for rule 1. It is asked for
 * somewhat more than the rules: loops are counting ones, and only the constructor makes anything.
 */
public final class LanguageTest {
    private static final int MOST_LINES = 60;
    private static final int MOST_PARAMETERS = 7;
    private static final int MOST_FIELDS = 20;
    private static final int MOST_CALLS_DEEP = 8;

    /** Every word of the language that the class may use; names are told apart by how they are declared. */
    private static final Set<String> WORDS = new HashSet<>(Arrays.asList(
        "public", "private", "static", "final", "class", "int", "boolean", "void", "new", "return", "if", "else", "for",
        "switch", "case", "default", "break", "continue", "true", "false", "length", "CutFiles", "Math", "min", "max"));
    private static final Pattern WORD = Pattern.compile("[A-Za-z_$][A-Za-z0-9_$]*");
    private static final Pattern DECLARED = Pattern.compile("(?:int|boolean|void|int\\[\\]) ([A-Za-z][A-Za-z0-9_]*)");
    private static final Pattern CONSTANTS = Pattern.compile("static final int ([^;]*);");
    private static final Pattern METHOD = Pattern.compile(
        "^    (?:public|private)(?: static)?(?: int| void| boolean)? (\\w+)\\((.*)\\) \\{$");
    private static final Pattern FIELD = Pattern.compile("^    (?:public|private|static|final|int)[^(]*;$");
    private static final Pattern CALL = Pattern.compile("(?<![.\\w])(\\w+)\\(");
    private static final Pattern COUNTING = Pattern.compile(
        "^ *for \\(int (\\w+) = [^;]+; ([^;]+); (\\w+)(\\+\\+|--)\\) \\{$");
    private static int wrong = 0;

    private LanguageTest() {
    }

    public static void main(String[] args) throws IOException {
        String source = Files.readString(Path.of("src", "main", "java", "CutFiles.java"));
        signs(source);
        List<String> lines = Arrays.asList(withoutComments(source).split("\n"));
        words(lines);
        operators(lines);
        fields(lines);
        loops(lines);
        Map<String, List<String>> methods = methods(lines);
        lengths(methods);
        whoMakes(methods);
        depths(methods);
        System.out.println(wrong == 0 ? "the rules of the language are kept" : wrong + " places break a rule");
        if (wrong != 0) {
            System.exit(1);
        }
    }

    private static void rule(int number, boolean kept, String where) {
        if (!kept) {
            wrong++;
            System.out.println("rule " + number + ": " + where.trim());
        }
    }

    private static String withoutComments(String source) {
        return source.replaceAll("(?s)/\\*.*?\\*/", "").replaceAll("//[^\n]*", "");
    }

    private static void signs(String source) {
        for (char sign : source.toCharArray()) {
            rule(3, sign == '\n' || sign >= 32 && sign < 127, "the sign " + (int) sign);
        }
        rule(3, !source.contains("\""), "the class needs no text");
    }

    private static void words(List<String> lines) {
        Set<String> known = new HashSet<>(WORDS);
        for (String line : lines) {
            addAll(known, DECLARED.matcher(line));
            Matcher constants = CONSTANTS.matcher(line);
            if (constants.find()) {
                addAll(known, Pattern.compile("(\\w+) =").matcher(constants.group(1)));
            }
        }
        for (String line : lines) {
            Matcher word = WORD.matcher(line);
            while (word.find()) {
                rule(4, known.contains(word.group()), word.group() + " in: " + line);
            }
        }
    }

    private static void addAll(Set<String> known, Matcher names) {
        while (names.find()) {
            known.add(names.group(1));
        }
    }

    private static void operators(List<String> lines) {
        for (String line : lines) {
            rule(2, !line.contains("->") && !line.contains("::") && !line.contains("@"), line);
            rule(2, !line.matches(".*\\bclass\\b.*") || line.equals("public final class CutFiles {"), line);
            Matcher divided = Pattern.compile("[/%]=? *(\\S+)").matcher(line);
            while (divided.find()) {
                rule(7, divided.group(1).startsWith("WIDTH"), "a divisor that is no constant: " + line);
            }
            Matcher point = Pattern.compile("(\\w+)\\.(\\w+)").matcher(line);
            while (point.find()) {
                rule(4, point.group().matches("Math\\.(min|max)|\\w+\\.length"), line);
            }
        }
    }

    private static void fields(List<String> lines) {
        int many = 0;
        for (String line : lines) {
            boolean isField = FIELD.matcher(line).matches();
            rule(5, !line.matches("^    static *\\{.*"), line);
            if (isField && line.contains(" static ")) {
                rule(5, line.contains(" static final int "), line);
            } else if (isField) {
                rule(1, line.startsWith("    private "), line);
                many++;
            }
        }
        rule(11, many > 0 && many <= MOST_FIELDS, many + " fields");
    }

    private static void loops(List<String> lines) {
        for (String line : lines) {
            if (line.matches(".*\\bfor\\b.*")) {
                Matcher loop = COUNTING.matcher(line);
                rule(9, loop.matches() && loop.group(1).equals(loop.group(3))
                    && loop.group(2).matches(".*\\b" + loop.group(1) + "\\b.* (<|<=|>|>=) .*"), line);
            }
        }
    }

    private static Map<String, List<String>> methods(List<String> lines) {
        Map<String, List<String>> methods = new TreeMap<>();
        List<String> body = null;
        for (String line : lines) {
            Matcher head = METHOD.matcher(line);
            if (head.matches()) {
                body = new ArrayList<>();
                rule(1, methods.put(head.group(1), body) == null, "two methods have the name " + head.group(1));
                rule(11, head.group(2).split(",").length <= MOST_PARAMETERS, line);
            } else if (line.equals("    }")) {
                body = null;
            } else if (body != null) {
                body.add(line);
            }
        }
        rule(1, methods.size() >= 19, "only " + methods.size() + " methods were found in the source");
        return methods;
    }

    private static void lengths(Map<String, List<String>> methods) {
        for (Map.Entry<String, List<String>> method : methods.entrySet()) {
            rule(11, method.getValue().size() + 2 <= MOST_LINES, method.getKey() + " is long");
        }
    }

    private static void whoMakes(Map<String, List<String>> methods) {
        for (Map.Entry<String, List<String>> method : methods.entrySet()) {
            for (String line : method.getValue()) {
                boolean makes = line.matches(".*\\bnew\\b.*");
                rule(12, !makes || method.getKey().equals("CutFiles"), method.getKey() + " makes: " + line);
                rule(12, !makes || line.matches("^        \\w+ = new int\\[[A-Z *]+\\];$"), line);
            }
        }
    }

    private static void depths(Map<String, List<String>> methods) {
        for (String method : methods.keySet()) {
            int deep = depth(method, methods, new ArrayList<>());
            rule(11, deep <= MOST_CALLS_DEEP, method + " goes " + deep + " calls deep");
        }
    }

    private static int depth(String method, Map<String, List<String>> methods, List<String> open) {
        if (open.contains(method)) {
            rule(8, false, method + " calls itself, by " + open);
            return 0;
        }
        open.add(method);
        int deepest = 0;
        for (String line : methods.get(method)) {
            Matcher call = CALL.matcher(line);
            while (call.find()) {
                if (methods.containsKey(call.group(1))) {
                    deepest = Math.max(deepest, depth(call.group(1), methods, open));
                }
            }
        }
        open.remove(open.size() - 1);
        return 1 + deepest;
    }
}
