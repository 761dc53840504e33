import java.io.IOException;
import java.nio.file.Files;
import java.nio.file.Path;
import java.util.Set;
import java.util.regex.Matcher;
import java.util.regex.Pattern;

/**
 * What ../shared/LANGUAGE.md rules out and can be seen in the class's words: a failed test bears the rule's number.
 * The face, private names and that no call throws are FaceTest's.
 */
public final class LanguageTest {
    private static final Path SOURCE = Path.of("src/main/java/FerryFloor.java");
    private static final int MOST_LINES_OF_A_METHOD = 60;
    private static final int MOST_PARAMETERS = 7;

    private static final Set<String> RULE_1 = Set.of("package", "import", "protected");
    private static final Set<String> RULE_6 = Set.of("throw", "throws", "try", "catch", "finally", "synchronized",
            "assert", "equals", "hashCode", "toString");
    private static final Set<String> LIBRARY = Set.of("Math.abs", "Math.floorMod", "Math.max", "Math.min",
            "System.arraycopy");

    private static int wrong = 0;

    public static void main(String[] args) throws IOException {
        String source = Files.readString(SOURCE);
        String code = withoutComments(source);
        noWord(code, 1, RULE_1);
        noWord(code, 6, RULE_6);
        nothingLike(code, "rule 2: a lambda or a method reference", "->|::");
        nothingLike(code, "rule 2: a class inside that is not static", "(?<!static final |public final )\\bclass\\b");
        nothingLike(code, "rule 5: a static field that is not final", "\\bstatic (?!final\\b)[\\w\\[\\]<>]+ \\w+\\s*[=;]");
        nothingLike(code, "rule 5: a static initialiser", "\\bstatic\\s*\\{");
        nothingLike(source, "rule 4: a sign that is not 1 to 127", "[^\\x01-\\x7f]");
        onlyTheLibrary(code);
        methodsAreShort(code);
        System.out.println(wrong == 0 ? "all rules are kept" : wrong + " rules are not kept");
        if (wrong != 0) {
            System.exit(1);
        }
    }

    private static void fail(String why) {
        wrong++;
        System.out.println(why);
    }

    /** Comments become blank, so that the lines stay. */
    private static String withoutComments(String source) {
        Matcher matcher = Pattern.compile("/\\*.*?\\*/|//[^\\n]*", Pattern.DOTALL).matcher(source);
        return matcher.replaceAll(found -> found.group().replaceAll("[^\\n]", " "));
    }

    private static int lineOf(String code, int at) {
        return (int) code.substring(0, at).chars().filter(sign -> sign == '\n').count() + 1;
    }

    private static void nothingLike(String code, String what, String pattern) {
        Matcher matcher = Pattern.compile(pattern).matcher(code);
        while (matcher.find()) {
            fail("line " + lineOf(code, matcher.start()) + ": " + what);
        }
    }

    private static void noWord(String code, int rule, Set<String> words) {
        for (String word : words) {
            nothingLike(code, "rule " + rule + ": " + word, "\\b" + word + "\\b");
        }
    }

    /** A name that begins with a great letter and is followed by a dot is a class of the library. */
    private static void onlyTheLibrary(String code) {
        Matcher matcher = Pattern.compile("\\b[A-Z]\\w*[a-z]\\w*\\.\\w+").matcher(code);
        while (matcher.find()) {
            if (!LIBRARY.contains(matcher.group())) {
                fail("line " + lineOf(code, matcher.start()) + ": rule 4: " + matcher.group());
            }
        }
    }

    private static void methodsAreShort(String code) {
        Matcher head = Pattern.compile("\\n( +)(?:[\\w\\[\\]<>]+ )*\\w+\\(([^()]*)\\) \\{\\n").matcher(code);
        int methods = 0;
        while (head.find()) {
            String name = head.group().trim();
            if (name.matches("(if|for|while|switch)\\b.*")) {
                continue;
            }
            methods++;
            int end = code.indexOf("\n" + head.group(1) + "}\n", head.end() - 1);
            int lines = end < 0 ? code.length() : lineOf(code, end) - lineOf(code, head.start() + 1) + 2;
            if (lines > MOST_LINES_OF_A_METHOD) {
                fail("rule 11: " + lines + " lines: " + name);
            }
            if (head.group(2).split(",").length > MOST_PARAMETERS) {
                fail("rule 11: too many parameters: " + name);
            }
        }
        if (methods < 22) {
            fail("only " + methods + " methods are found: the promises alone have 22");
        }
    }
}
