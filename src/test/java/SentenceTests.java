import java.io.IOException;
import java.nio.file.Files;
import java.nio.file.Path;
import java.util.ArrayList;
import java.util.LinkedHashMap;
import java.util.List;
import java.util.Map;

/**
 * Runs the test of each sentence, and looks at the document itself: every word under "What it is", "Terms" and the
 * promises stands in the words of some test, and the words of each test stand in the document.
 */
public final class SentenceTests {
    private static final Path DOCUMENT = Path.of("../shared/DOC.md");
    /** Words that ask for nothing: what the document is about, in short, and marks of its parts. */
    private static final String[] ASK_NOTHING = {
        "A setter of area drawings: trees of sizes, read from a text, are drawn as boxes within boxes whose areas are as"
            + " the sizes; side by side, in rows with the best breaks, by the best cuts, or by what moves little against"
            + " the drawing before; small ones are put together, names are cut to what fits, the box under a point is"
            + " told, and each box is followed from drawing to drawing.",
        "==== 1.", "==== 2.", "```text", "```"};

    private static int wrong = 0;

    public static void main(String[] args) throws IOException {
        List<Sentences.Sentence> all = Sentences.all();
        for (Sentences.Sentence s : all) {
            if (s.run(false) > 0) {
                tell("does not hold (" + s.part() + "): " + s.words());
            }
        }
        if (Files.isReadable(DOCUMENT)) {
            lookAtDocument(all, Files.readString(DOCUMENT));
        } else {
            System.out.println("SentenceTests: there is no " + DOCUMENT + " to look at");
        }
        System.out.println("SentenceTests: " + all.size() + " sentences, " + wrong + " not as due");
        if (wrong > 0) {
            System.exit(1);
        }
    }

    private static void tell(String what) {
        wrong++;
        System.out.println(what);
    }

    private static void lookAtDocument(List<Sentences.Sentence> all, String document) {
        Map<String, String> parts = partsOf(document);
        Map<String, boolean[]> covered = new LinkedHashMap<>();
        parts.forEach((heading, text) -> covered.put(heading, new boolean[text.length()]));
        for (Sentences.Sentence s : all) {
            String text = parts.get(s.part());
            int at = text == null ? -1 : text.indexOf(s.words());
            if (at < 0 || text.indexOf(s.words(), at + 1) >= 0) {
                tell("not once in the document (" + s.part() + "): " + s.words());
            } else {
                cover(covered.get(s.part()), at, s.words().length());
            }
        }
        parts.forEach((heading, text) -> lookAtPart(heading, text, covered.get(heading)));
    }

    private static void cover(boolean[] marks, int from, int length) {
        for (int i = from; i < from + length; i++) {
            marks[i] = true;
        }
    }

    private static void lookAtPart(String heading, String text, boolean[] marks) {
        for (String words : ASK_NOTHING) {
            for (int at = text.indexOf(words); at >= 0; at = text.indexOf(words, at + 1)) {
                cover(marks, at, words.length());
            }
        }
        if (heading.startsWith("Promise")) {
            // the method that it is about
            cover(marks, 0, text.indexOf("`:") + 2);
        }
        for (String words : uncovered(text, marks)) {
            tell("no test (" + heading + "): " + words);
        }
    }

    private static List<String> uncovered(String text, boolean[] marks) {
        List<String> found = new ArrayList<>();
        StringBuilder words = new StringBuilder();
        for (int i = 0; i <= text.length(); i++) {
            if (i < text.length() && !marks[i]) {
                words.append(text.charAt(i));
            } else if (words.length() > 0) {
                if (!words.toString().isBlank()) {
                    found.add(words.toString());
                }
                words.setLength(0);
            }
        }
        return found;
    }

    /** What stands under each heading that asks for something, with one blank between words. */
    private static Map<String, String> partsOf(String document) {
        Map<String, String> parts = new LinkedHashMap<>();
        for (String piece : document.split("\n## ")) {
            int end = piece.indexOf('\n');
            String heading = end < 0 ? piece : piece.substring(0, end);
            if (heading.equals("What it is") || heading.equals("Terms") || heading.startsWith("Promise ")) {
                parts.put(heading, piece.substring(end).replaceAll("\\s+", " ").trim());
            }
        }
        return parts;
    }
}
