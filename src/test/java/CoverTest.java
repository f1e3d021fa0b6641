import java.io.IOException;
import java.lang.reflect.Method;
import java.nio.file.Files;
import java.nio.file.Path;
import java.util.ArrayList;
import java.util.List;
import java.util.regex.Matcher;
import java.util.regex.Pattern;

/**
 * Holds the tests of sentences against the document: what a test quotes stands there, and no words of a
 * promise or of the terms are left that no test quotes.
 */
public final class CoverTest {
    private static final Class<?>[] TESTS = {
        EdgeTextTest.class, EdgeNightTest.class, EdgeHomeTest.class, EdgeSeenTest.class, EdgeSheetTest.class,
    };
    private static final int PROMISES = 36;

    /** A part of the document, and which of its signs some test quotes. */
    private static final class Part {
        final String text;
        final boolean[] quoted;

        Part(String text) {
            this.text = plain(text);
            quoted = new boolean[this.text.length()];
        }

        boolean quote(String words) {
            boolean found = false;
            for (int at = text.indexOf(words); at >= 0; at = text.indexOf(words, at + 1)) {
                found = true;
                for (int i = at; i < at + words.length(); i++) {
                    quoted[i] = true;
                }
            }
            return found;
        }

        /** Words that no test quotes. */
        List<String> left() {
            StringBuilder rest = new StringBuilder();
            for (int i = 0; i < text.length(); i++) {
                rest.append(quoted[i] ? '\n' : text.charAt(i));
            }
            List<String> words = new ArrayList<>();
            for (String line : rest.toString().split("\n+")) {
                if (line.matches(".*[A-Za-z].*")) {
                    words.add(line.trim());
                }
            }
            return words;
        }
    }

    public static void main(String[] args) throws IOException {
        String doc = Files.readString(Path.of(args.length > 0 ? args[0] : "../shared/DOC.md"));
        Part terms = new Part(between(doc, "## Terms", "Ahead of the calls"));
        Part[] promises = new Part[PROMISES + 1];
        for (int number = 1; number <= PROMISES; number++) {
            String whole = between(doc, "## Promise " + number + ":", "\n## ");
            promises[number] = new Part(whole.replaceFirst("(?s)^.*?`[^`]*`:", ""));
        }
        for (Class<?> tests : TESTS) {
            for (Method m : Sentences.of(tests)) {
                quote(m, terms, promises);
            }
        }
        Check.same("left of the terms", terms.left().toString(), "[]");
        for (int number = 1; number <= PROMISES; number++) {
            Check.same("left of promise " + number, promises[number].left().toString(), "[]");
        }
        Check.finish();
    }

    private static void quote(Method m, Part terms, Part[] promises) {
        Promise promise = m.getAnnotation(Promise.class);
        int number = promise.number();
        boolean known = number >= 1 && number <= PROMISES;
        boolean inTerms = terms.quote(plain(promise.says()));
        boolean inPromise = known && promises[number].quote(plain(promise.says()));
        Check.due(m.getName() + " quotes promise " + number + " or the terms", inTerms || inPromise ? 1 : 0, 1);
    }

    private static String between(String doc, String from, String to) {
        Matcher m = Pattern.compile("(?s)" + Pattern.quote(from) + "(.*?)(" + Pattern.quote(to) + "|$)").matcher(doc);
        return m.find() ? m.group(1) : "";
    }

    /** One blank between words, no marks of the page. */
    private static String plain(String text) {
        return text.replaceAll("```(text)?", " ").replaceAll("=+ [12] ", " ").replaceAll("\\s+", " ").trim();
    }
}
