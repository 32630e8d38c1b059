import java.io.IOException;
import java.lang.reflect.Method;
import java.nio.charset.StandardCharsets;
import java.nio.file.Files;
import java.nio.file.Path;
import java.util.ArrayList;
import java.util.List;

/**
 * Holds the Edge tests against the document itself: each quotes words that stand there, in the promise that it
 * names, and no sentence of promises 1 to 56 is without a test.
 */
public final class SentencesTest {
    private static final Class<?>[] TESTS = {EdgeTermsTest.class, EdgeTellingTest.class, EdgeBestTest.class,
        EdgeMadeTest.class, EdgeLookingTest.class, EdgeSeveralTest.class, EdgeDecidingTest.class, EdgeBookTest.class,
        EdgeKeptTest.class};
    private static final int PROMISES = 56;

    private SentencesTest() {
    }

    /** What stands ahead of the promises, then each of them; blanks and ends of lines are all one. */
    private static String[] sections(String document) {
        String[] sections = new String[PROMISES + 1];
        String rest = document.replaceAll("\\s+", " ");
        for (int i = 0; i <= PROMISES; i++) {
            String next = i < PROMISES ? "## Promise " + (i + 1) + ":" : "## Not promised";
            int end = rest.indexOf(next);
            Due.is("the document has " + next, end >= 0, true);
            sections[i] = rest.substring(0, end).trim();
            rest = rest.substring(end + next.length());
        }
        return sections;
    }

    /** For each sign of a section, whether a test quotes it. */
    private static boolean[][] quoted(String[] sections) {
        boolean[][] quoted = new boolean[sections.length][];
        for (int i = 0; i < sections.length; i++) {
            quoted[i] = new boolean[sections[i].length()];
        }
        for (Class<?> c : TESTS) {
            for (Method test : c.getDeclaredMethods()) {
                Says says = test.getAnnotation(Says.class);
                if (says != null) {
                    mark(test.getName(), says.value(), sections[says.promise()], quoted[says.promise()]);
                }
            }
        }
        return quoted;
    }

    private static void mark(String test, String words, String section, boolean[] quoted) {
        int at = section.indexOf(words);
        Due.is(test + " quotes what does not stand there: " + words, at >= 0, true);
        for (; at >= 0; at = section.indexOf(words, at + 1)) {
            for (int i = 0; i < words.length(); i++) {
                quoted[at + i] = true;
            }
        }
    }

    /** Where the sentences of a promise, and what ; parts, begin and end. */
    private static List<int[]> sentences(String section) {
        List<int[]> all = new ArrayList<>();
        int begin = section.indexOf("`: ") + 3;
        int depth = 0;
        for (int i = begin; i < section.length(); i++) {
            char c = section.charAt(i);
            depth += c == '(' ? 1 : c == ')' ? -1 : 0;
            boolean last = i + 1 == section.length();
            boolean parts = (c == ';' || c == '.' && section.charAt(i - 1) != '.') && (last || section.charAt(i + 1) == ' ');
            if (last || depth == 0 && parts) {
                all.add(new int[] {begin, i + 1});
                begin = i + 1;
            }
        }
        return all;
    }

    private static void allHaveATest(int promise, String section, boolean[] quoted) {
        for (int[] sentence : sentences(section)) {
            boolean any = false;
            for (int i = sentence[0]; i < sentence[1]; i++) {
                any |= quoted[i] && section.charAt(i) != ' ';
            }
            String words = section.substring(sentence[0], sentence[1]).trim();
            Due.is("promise " + promise + " has a test for: " + words, any, true);
        }
    }

    public static void main(String[] args) throws IOException {
        String document = new String(Files.readAllBytes(Path.of("../shared/DOC.md")), StandardCharsets.UTF_8);
        String[] sections = sections(document);
        boolean[][] quoted = quoted(sections);
        for (int promise = 1; promise <= PROMISES; promise++) {
            allHaveATest(promise, sections[promise], quoted[promise]);
        }
        Due.end("SentencesTest");
    }
}
