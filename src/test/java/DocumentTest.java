import java.io.IOException;
import java.lang.reflect.Method;
import java.nio.file.Files;
import java.nio.file.Path;
import java.util.ArrayList;
import java.util.Arrays;
import java.util.List;

/** Each test of a sentence quotes the document's own words, and no words of the document are without a test. */
public final class DocumentTest {
    private static final Path DOCUMENT = Path.of("../shared/DOC.md");
    private static final int PROMISES = 51;
    private static final Class<?>[] TESTS = {EdgesOfAnswersTest.class, EdgesOfTermsTest.class, EdgesOfRowsTest.class,
        EdgesOfOfficesTest.class, EdgesOfDrawingsTest.class, EdgesOfPapersTest.class, EdgesOfYearsTest.class,
        EdgesOfTalkTest.class, EdgesOfRulesTest.class, EdgesOfWhatIsToldTest.class};

    public static void main(String[] args) throws IOException {
        if (!Files.isReadable(DOCUMENT)) {
            System.out.println("the document is not at " + DOCUMENT + ": nothing to compare with");
            return;
        }
        String document = Files.readString(DOCUMENT).replaceAll("\\s+", " ");
        List<Sentence> sentences = sentences();
        quoted(document, sentences);
        told(0, terms(document), sentences);
        for (int promise = 1; promise <= PROMISES; promise++) {
            told(promise, answers(promise, document), sentences);
        }
        Due.end();
    }

    private static List<Sentence> sentences() {
        List<Sentence> all = new ArrayList<>();
        for (Class<?> tests : TESTS) {
            for (Method test : Sentences.testsOf(tests)) {
                all.add(test.getAnnotation(Sentence.class));
            }
        }
        return all;
    }

    private static String between(String text, String from, String to) {
        int start = text.indexOf(from);
        int end = text.indexOf(to, start + from.length());
        return start < 0 || end < 0 ? "" : text.substring(start + from.length(), end);
    }

    private static String section(int promise, String document) {
        if (promise == 0) {
            return between(document, "# HatDraw", "## Promise 1:");
        }
        return between(document, "## Promise " + promise + ":", promise == PROMISES ? "## Not promised" : "## Promise " + (promise + 1) + ":");
    }

    /** What stands behind a promise's name and call. */
    private static String answers(int promise, String document) {
        return section(promise, document).replaceFirst("^[^`]*`[^`]*`:", "");
    }

    private static String terms(String document) {
        String terms = between(document, "## Terms", "Ahead of the calls");
        return terms.replace("```text", "").replace("```", "").replaceAll("======== [1-3]?", "");
    }

    private static void quoted(String document, List<Sentence> sentences) {
        for (Sentence sentence : sentences) {
            boolean there = section(sentence.promise(), document).contains(sentence.says());
            Due.is("promise " + sentence.promise() + " says '" + sentence.says() + "'", there ? 1 : 0, 1);
        }
    }

    private static void told(int promise, String text, List<Sentence> sentences) {
        char[] left = text.toCharArray();
        for (Sentence sentence : sentences) {
            String words = sentence.says();
            for (int at = text.indexOf(words); sentence.promise() == promise && at >= 0; at = text.indexOf(words, at + 1)) {
                Arrays.fill(left, at, at + words.length(), '\n');
            }
        }
        Due.is("promise " + promise + " has words", text.isBlank() ? 0 : 1, 1);
        for (String words : new String(left).split("\n+")) {
            if (words.matches(".*\\w.*")) {
                Due.is("promise " + promise + ": a test of '" + words + "'", 0, 1);
            }
        }
    }
}
