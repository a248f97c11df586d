import java.lang.reflect.Method;
import java.nio.file.Files;
import java.nio.file.Path;
import java.util.ArrayList;
import java.util.List;

/** Each sentence of the document's Terms and promises has a test that says it; the document's path is the second argument. */
public final class DocumentTest {
    private static final int PROMISES = 27, TERMS = 0;
    private static final List<Class<?>> TESTS = List.of(ScreenTermsTest.class, SignTermsTest.class, AskTermsTest.class,
        RefusalTermsTest.class, PanePromisesTest.class, SignPromisesTest.class, AskPromisesTest.class);

    public static void main(String[] args) throws Exception {
        String document = Files.readString(Path.of(args.length > 1 ? args[1] : "../shared/DOC.md"));
        for (int promise = TERMS; promise <= PROMISES; promise++) {
            everyWordIsSaid(promise, promise == TERMS ? termsOf(document) : promiseOf(document, promise));
        }
        Due.end();
    }

    private static String between(String text, String begin, String end) {
        int from = text.indexOf(begin);
        Due.isTrue("the document has '" + begin + "'", from >= 0);
        int to = text.indexOf(end, from + begin.length());
        return from < 0 ? "" : text.substring(from + begin.length(), to < 0 ? text.length() : to);
    }

    private static String plain(String text) {
        return text.replace("```text", " ").replace("```", " ").replace("========", " ").replaceAll("\\s+", " ").trim();
    }

    /** The first words of the Terms stand at the end of the section ahead of them. */
    private static String termsOf(String document) {
        String first = between(between(document, "## What it is", "\n\nAn object"), "drawn as rows of signs.", "\n\n");
        return plain(first + " " + between(document, "## Terms", "\nAhead of the calls"));
    }

    private static String promiseOf(String document, int promise) {
        String section = between(document, "## Promise " + promise + ": ", "\n## ");
        return plain(section.substring(section.lastIndexOf("`: ") + 3));
    }

    private static void everyWordIsSaid(int promise, String text) {
        Due.isTrue("promise " + promise + " has words", !text.isEmpty());
        boolean[] said = new boolean[text.length()];
        for (Class<?> tests : TESTS) {
            for (Method test : Sentences.testsOf(tests)) {
                Says says = test.getAnnotation(Says.class);
                if (says.promise() == promise) {
                    mark(test.getName(), says.value(), text, said);
                }
            }
        }
        for (String words : notSaid(text, said)) {
            Due.isTrue((promise == TERMS ? "Terms" : "promise " + promise) + ": a test says '" + words + "'", false);
        }
    }

    private static void mark(String test, String[] pieces, String text, boolean[] said) {
        int from = 0;
        for (String piece : pieces) {
            int at = text.indexOf(piece, from);
            Due.isTrue(test + ": the document says '" + piece + "'", at >= 0);
            from = at < 0 ? from : at + piece.length();
            for (int i = Math.max(at, 0); at >= 0 && i < from; i++) {
                said[i] = true;
            }
        }
    }

    private static List<String> notSaid(String text, boolean[] said) {
        List<String> left = new ArrayList<>();
        StringBuilder words = new StringBuilder();
        for (int i = 0; i <= text.length(); i++) {
            if (i < text.length() && !said[i]) {
                words.append(text.charAt(i));
            } else {
                if (words.toString().matches(".*[A-Za-z0-9].*")) {
                    left.add(words.toString().trim());
                }
                words.setLength(0);
            }
        }
        return left;
    }
}
