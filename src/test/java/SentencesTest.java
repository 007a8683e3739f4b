import java.io.IOException;
import java.nio.file.Files;
import java.nio.file.Path;
import java.util.LinkedHashMap;
import java.util.List;
import java.util.Map;

/**
 * Runs src/test/sentences.txt: each sentence of the document and the runs of calls that fail if it is
 * broken. It fails, too, if the file quotes what the document does not say, or leaves a sentence out.
 */
public final class SentencesTest {
    private static final Path SENTENCES = Path.of("src/test/sentences.txt");
    private static final Path DOCUMENT = Path.of("../shared/DOC.md");
    private static final Script script = new Script("sentences");

    /** What is left of each section of the document when its quotes are taken out. */
    private static final Map<String, String> left = new LinkedHashMap<>();

    public static void main(String[] args) throws IOException {
        readDocument();
        runAll(Files.readAllLines(SENTENCES));
        left.forEach((section, text) -> script.due("section " + section + " is not quoted: " + text, text.isBlank()));
        script.end();
    }

    private static void readDocument() throws IOException {
        String section = "";
        for (String line : Files.readAllLines(DOCUMENT)) {
            if (line.startsWith("#")) section = line.replaceAll("^#+ ", "").replaceAll("(Promise \\d+):.*", "$1");
            else left.merge(section, line, (a, b) -> a + " " + b);
        }
        // the face is FaceTest's, and nothing is promised by these
        for (String other : List.of("", "CellarTides", "The public face", "Not promised")) left.remove(other);
        left.replaceAll(SentencesTest::plain);
    }

    /** One line, without what says nothing of an answer: marks, a call's head, headings of the interface, the summary. */
    private static String plain(String section, String text) {
        String one = text.replaceAll("```(text)?", "").replaceAll("======== \\d", "");
        if (section.startsWith("Promise")) one = one.replaceAll("`[^`]*`:", "");
        one = one.replaceAll("Ahead of the calls [^-]*---- \\d[^.]*\\.", "");
        if (section.equals("What it is")) one = one.replaceAll("Tides of the cellar:.*years by draws; images\\.", "");
        return one.replaceAll("\\s+", " ").trim();
    }

    private static void runAll(List<String> lines) {
        String section = "", sentence = "";
        StringBuilder steps = new StringBuilder();
        for (String line : lines) {
            boolean begins = line.startsWith("== ") || line.startsWith("> ") || line.equals("--");
            if (begins) {
                runOne(section, sentence, steps);
                if (line.startsWith("== ")) { section = line.substring(3).trim(); sentence = ""; }
                if (line.startsWith("> ")) { sentence = line.substring(2).trim(); quote(section, sentence); }
            } else if (!line.startsWith("#")) {
                steps.append(line).append('\n');
            }
        }
        runOne(section, sentence, steps);
    }

    /** Sentences are quoted in their order, so each is looked for at the beginning of what is left. */
    private static void quote(String section, String sentence) {
        String text = left.getOrDefault(section, "");
        script.due("section " + section + " does not go on with: " + sentence, text.startsWith(sentence));
        if (text.startsWith(sentence)) left.put(section, text.substring(sentence.length()).trim());
    }

    private static void runOne(String section, String sentence, StringBuilder steps) {
        if (!sentence.isEmpty()) {
            script.run(section + ": " + sentence, steps.toString());
            script.due("no run", script.calls() > 0);
        }
        steps.setLength(0);
    }
}
