import java.io.IOException;
import java.lang.reflect.Method;
import java.nio.file.Files;
import java.nio.file.Path;
import java.util.Map;
import java.util.TreeMap;

/**
 * Each word of the document's terms and promises stands in the sentence of at least one test, and each sentence
 * that a test names stands in the document, under the promise whose number the test bears.
 */
public final class SentencesTest extends Checks {
    private static final Path DOCUMENT = Path.of("../shared/DOC.md");
    private static final Class<?>[] TESTS = {
        TermsTest.class, FloorTest.class, WalkersTest.class, ClerkTest.class, LookingTest.class, TellingTest.class};
    private static final int LAST_PROMISE = 22;

    public static void main(String[] args) throws IOException {
        if (!Files.exists(DOCUMENT)) {
            // The program is tested without it: here the tests alone are compared with it.
            System.out.println("no document at " + DOCUMENT + ": nothing is compared");
            return;
        }
        Map<Integer, StringBuilder> sections = sections();
        Map<Integer, boolean[]> covered = new TreeMap<>();
        for (int promise = 0; promise <= LAST_PROMISE; promise++) {
            if (sections.containsKey(promise)) {
                covered.put(promise, new boolean[sections.get(promise).length()]);
            } else {
                fail("the document has no promise " + promise);
            }
        }
        int tests = 0;
        for (Class<?> each : TESTS) {
            for (Method method : testsOf(each)) {
                cover(method, sections, covered);
                tests++;
            }
        }
        for (int promise : covered.keySet()) {
            dueCovered(promise, sections.get(promise), covered.get(promise));
        }
        finish(tests);
    }

    /** The document's words by promise; under 0 those ahead of the promises that bind. */
    private static Map<Integer, StringBuilder> sections() throws IOException {
        Map<Integer, StringBuilder> sections = new TreeMap<>();
        int promise = -1;
        boolean code = false;
        for (String line : Files.readAllLines(DOCUMENT)) {
            if (line.startsWith("```")) {
                code = !code;
            } else if (line.startsWith("## ")) {
                promise = promiseOfHeading(line);
            } else if (promise >= 0 && !code && !line.startsWith("#") && !line.startsWith("Ahead of the calls")) {
                sections.computeIfAbsent(promise, number -> new StringBuilder()).append(plain(line)).append(' ');
            }
        }
        return sections;
    }

    private static int promiseOfHeading(String line) {
        if (line.startsWith("## Promise ")) {
            return Integer.parseInt(line.substring("## Promise ".length(), line.indexOf(':')));
        }
        return line.equals("## Terms") || line.equals("## What it is") ? 0 : -1;
    }

    /** Without marks, and without the head of a method, which the face's own test has. */
    private static String plain(String line) {
        String words = line.replace("`", "");
        if (line.startsWith("`int ") || line.startsWith("`FerryFloor()")) {
            words = words.substring(words.indexOf("): ") + "): ".length());
        }
        // What the class is begins the document; it is told again by the terms.
        return words.startsWith("The weighing floor of a ferry") ? "" : words.replaceFirst("^- ", "");
    }

    private static void cover(Method test, Map<Integer, StringBuilder> sections, Map<Integer, boolean[]> covered) {
        int promise = promiseOf(test);
        String sentence = test.getAnnotation(Sentence.class).value();
        if (!covered.containsKey(promise) || sections.get(promise).indexOf(sentence) < 0) {
            fail(test.getName() + " names a sentence that is not there: " + sentence);
            return;
        }
        StringBuilder text = sections.get(promise);
        for (int at = text.indexOf(sentence); at >= 0; at = text.indexOf(sentence, at + 1)) {
            for (int index = at; index < at + sentence.length(); index++) {
                covered.get(promise)[index] = true;
            }
        }
    }

    private static void dueCovered(int promise, StringBuilder text, boolean[] covered) {
        StringBuilder open = new StringBuilder();
        for (int index = 0; index < covered.length; index++) {
            open.append(covered[index] ? ' ' : text.charAt(index));
        }
        if (!open.toString().isBlank()) {
            fail("promise " + promise + ": no test names these words: " + open.toString().trim());
        }
    }
}
