import java.io.IOException;
import java.io.UncheckedIOException;
import java.nio.file.Files;
import java.nio.file.Path;
import java.util.ArrayList;
import java.util.LinkedHashMap;
import java.util.List;
import java.util.Map;

/**
 * The sentences of ../shared/DOC.md, and how many tests each of them has. A test first calls says
 * with the sentence that it asks for, word by word as the document has it.
 */
final class Document {
    static final int WHAT_IT_IS = -1;
    static final int TERMS = 0;

    private static final int NO_SECTION = -2;
    private static final Map<String, Integer> TESTS = sentences();
    private static String told = null;

    /** From here on what is asked is asked for this sentence. */
    static void says(int promise, String sentence) {
        told = place(promise) + ": " + sentence;
        Expect.about(told);
        Expect.is("is a sentence of the document", TESTS.containsKey(told), true);
        TESTS.merge(told, 1, Integer::sum);
    }

    static void beginTest() {
        told = null;
        Expect.about("");
    }

    /** The place and the sentence that the test last told; null if it told none. */
    static String told() {
        return told;
    }

    static String place(int promise) {
        if (promise == WHAT_IT_IS) {
            return "What it is";
        }
        return promise == TERMS ? "Terms" : "Promise " + promise;
    }

    /** The sentences of a section that begin so. */
    static List<String> sentencesThatBegin(int promise, String beginning) {
        List<String> found = new ArrayList<>();
        String ahead = place(promise) + ": ";
        for (String key : TESTS.keySet()) {
            if (key.startsWith(ahead + beginning)) {
                found.add(key.substring(ahead.length()));
            }
        }
        return found;
    }

    static void allAreTested() {
        Expect.about("");
        Expect.is("the document has many sentences", TESTS.size() > 150, true);
        TESTS.forEach((sentence, tests) -> Expect.is("has a test: " + sentence, tests > 0, true));
    }

    private static Map<String, Integer> sentences() {
        Map<String, Integer> found = new LinkedHashMap<>();
        int section = NO_SECTION;
        for (String line : lines()) {
            if (line.startsWith("## ")) {
                section = sectionOf(line);
            } else if (section == TERMS || section == WHAT_IT_IS) {
                addSentences(found, section, line);
            } else if (section > TERMS) {
                addLineOfPromise(found, section, line);
            }
        }
        return found;
    }

    private static List<String> lines() {
        try {
            return Files.readAllLines(Path.of("../shared/DOC.md"));
        } catch (IOException missing) {
            throw new UncheckedIOException(missing);
        }
    }

    private static int sectionOf(String heading) {
        if (heading.equals("## What it is")) {
            return WHAT_IT_IS;
        }
        if (heading.equals("## Terms")) {
            return TERMS;
        }
        return heading.matches("## Promise \\d+: .*")
                ? Integer.parseInt(heading.substring("## Promise ".length(), heading.indexOf(':'))) : NO_SECTION;
    }

    /** What the whole is like is no sentence that a test could ask for, nor is a heading of one word. */
    private static void addSentences(Map<String, Integer> found, int section, String line) {
        for (String sentence : line.split("(?<=\\.) ")) {
            if (!sentence.isBlank() && !sentence.matches("\\w+\\.") && !sentence.startsWith("A chamber of notaries")) {
                found.put(place(section) + ": " + sentence, 0);
            }
        }
    }

    private static void addLineOfPromise(Map<String, Integer> found, int section, String line) {
        String sentence = line.startsWith("`") ? line.substring(line.indexOf("`: ") + 3) : line;
        if (!sentence.isBlank() && !namesAnArgumentOnly(sentence)) {
            found.put(place(section) + ": " + sentence, 0);
        }
    }

    private static boolean namesAnArgumentOnly(String sentence) {
        return sentence.startsWith("- ") && !sentence.matches(".*(\\d|another|later).*");
    }

    private Document() {
    }
}
