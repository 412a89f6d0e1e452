import java.io.IOException;
import java.lang.reflect.Method;
import java.lang.reflect.Modifier;
import java.nio.file.Files;
import java.nio.file.Path;
import java.util.ArrayList;
import java.util.Arrays;
import java.util.List;
import java.util.Set;
import java.util.TreeSet;
import java.util.regex.Matcher;
import java.util.regex.Pattern;

/** Each test of a sentence quotes the document's own words, and no words of the document are without a test. */
public final class DocumentTest {
    private static final Path DOCUMENT = Path.of("../shared/DOC.md");
    private static final int PROMISES = 51;
    private static final Class<?>[] TESTS = {EdgesOfAnswersTest.class, EdgesOfTermsTest.class, EdgesOfRowsTest.class,
        EdgesOfOfficesTest.class, EdgesOfDrawingsTest.class, EdgesOfPapersTest.class, EdgesOfYearsTest.class,
        EdgesOfTalkTest.class, EdgesOfRulesTest.class, EdgesOfWhatIsToldTest.class};

    public static void main(String[] args) throws IOException {
        if (!Files.isReadable(DOCUMENT)) {
            System.out.println("the document is not at " + DOCUMENT + ": nothing to compare with");
            return;
        }
        String document = Files.readString(DOCUMENT).replaceAll("\\s+", " ");
        List<Sentence> sentences = sentences();
        face(document);
        quoted(document, sentences);
        told(0, terms(document), sentences);
        for (int promise = 1; promise <= PROMISES; promise++) {
            told(promise, answers(promise, document), sentences);
        }
        Due.end();
    }

    private static List<Sentence> sentences() {
        List<Sentence> all = new ArrayList<>();
        for (Class<?> tests : TESTS) {
            for (Method test : Sentences.testsOf(tests)) {
                all.add(test.getAnnotation(Sentence.class));
            }
        }
        return all;
    }

    private static String between(String text, String from, String to) {
        int start = text.indexOf(from);
        int end = text.indexOf(to, start + from.length());
        return start < 0 || end < 0 ? "" : text.substring(start + from.length(), end);
    }

    private static String section(int promise, String document) {
        if (promise == 0) {
            return between(document, "# HatDraw", "## Promise 1:");
        }
        return between(document, "## Promise " + promise + ":", promise == PROMISES ? "## Not promised" : "## Promise " + (promise + 1) + ":");
    }

    /** What stands behind a promise's name and call. */
    private static String answers(int promise, String document) {
        return section(promise, document).replaceFirst("^[^`]*`[^`]*`:", "");
    }

    private static String terms(String document) {
        String terms = between(document, "## Terms", "Ahead of the calls");
        return terms.replace("```text", "").replace("```", "").replaceAll("======== [1-3]?", "");
    }

    /** Each call stands in the class as the document has it, and the class has no other one. */
    private static void face(String document) {
        Matcher call = Pattern.compile("public (int|long) (\\w+)\\(([^)]*)\\);").matcher(between(document, "## The public face", "## Terms"));
        Set<String> due = new TreeSet<>();
        while (call.find()) {
            due.add(call.group(1) + " " + call.group(2) + "(" + call.group(3).replaceAll("int \\w+", "int").replace(" ", "") + ")");
        }
        Set<String> open = new TreeSet<>();
        for (Method method : HatDraw.class.getDeclaredMethods()) {
            if (Modifier.isPublic(method.getModifiers())) {
                String types = Arrays.toString(method.getParameterTypes()).replaceAll("[\\[\\] ]", "");
                open.add(method.getReturnType() + " " + method.getName() + "(" + types + ")");
            }
        }
        Due.is("the face " + due + " as the class has it " + open, due.equals(open) ? 1 : 0, 1);
        Due.is("a call a promise, but for that of a new object", due.size(), PROMISES - 1);
    }

    private static void quoted(String document, List<Sentence> sentences) {
        for (Sentence sentence : sentences) {
            boolean there = section(sentence.promise(), document).contains(sentence.says());
            Due.is("promise " + sentence.promise() + " says '" + sentence.says() + "'", there ? 1 : 0, 1);
        }
    }

    private static void told(int promise, String text, List<Sentence> sentences) {
        char[] left = text.toCharArray();
        for (Sentence sentence : sentences) {
            String words = sentence.says();
            for (int at = text.indexOf(words); sentence.promise() == promise && at >= 0; at = text.indexOf(words, at + 1)) {
                Arrays.fill(left, at, at + words.length(), '\n');
            }
        }
        Due.is("promise " + promise + " has words", text.isBlank() ? 0 : 1, 1);
        for (String words : new String(left).split("\n+")) {
            if (words.matches(".*\\w.*")) {
                Due.is("promise " + promise + ": a test of '" + words + "'", 0, 1);
            }
        }
    }
}
