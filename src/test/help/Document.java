import java.io.IOException;
import java.nio.file.Files;
import java.nio.file.Path;
import java.util.ArrayList;
import java.util.List;

/** What ../shared/DOC.md says, so that tests can hold the class and themselves against its very words. */
final class Document {
    private static final Path PATH = Path.of("..", "shared", "DOC.md");
    private static final String AHEAD = "Ahead of the calls ";

    private Document() {
    }

    static List<String> lines() throws IOException {
        return Files.readAllLines(PATH);
    }

    /** The lines of the public face, and ahead of the first call of each chapter what the interface says there. */
    static List<String> face() throws IOException {
        List<String> lines = lines();
        List<String> face = new ArrayList<>();
        int end = lines.indexOf("}");
        for (String line : lines.subList(lines.indexOf("```java") + 1, end)) {
            String chapter = chapterThatBeginsWith(line, lines);
            if (chapter != null) {
                face.add("// " + chapter);
            }
            face.add(line.trim());
        }
        return face;
    }

    private static String chapterThatBeginsWith(String declaration, List<String> lines) {
        for (String line : lines) {
            if (line.startsWith(AHEAD)) {
                String first = line.split("`")[1];
                if (declaration.contains(" " + first + "(")) {
                    return line.substring(line.indexOf("----"), line.length() - 1);
                }
            }
        }
        return null;
    }

    /** All sentences from "What it is" to the last promise, in one line, without headings, face and chapters. */
    static String sentences() throws IOException {
        StringBuilder text = new StringBuilder();
        boolean inFace = false;
        for (String line : lines()) {
            if (line.equals("## Not promised")) {
                break;
            }
            inFace = line.equals("```java") || inFace && !line.equals("```");
            boolean isFrame = inFace || line.startsWith("#") || line.startsWith("```") || line.startsWith(AHEAD);
            String words = line.replaceFirst("^==== [0-9]", "").trim();
            if (!isFrame && !words.isEmpty()) {
                text.append(text.length() == 0 ? "" : " ").append(words);
            }
        }
        return text.toString();
    }
}
