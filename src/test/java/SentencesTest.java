import java.io.IOException;
import java.nio.file.Files;
import java.nio.file.Path;
import java.util.ArrayList;
import java.util.HashMap;
import java.util.List;
import java.util.Map;

/**
 * Holds the tests against the document: each sentence that a test quotes stands there, and each
 * exception that a promise names is quoted by a test.
 */
public final class SentencesTest {
    private static final Path DOCUMENT = Path.of("../shared/DOC.md");
    private static final List<Class<?>> TESTS = List.of(TermsTest.class, TextsTest.class,
            MakingTest.class, LookingTest.class, NumbersTest.class, PeriodsTest.class,
            TurningTest.class, PartsTest.class, TextMakingTest.class, FiguresTest.class,
            RefusedTest.class);

    public static void main(String[] args) throws IOException {
        Map<String, String> sections = sections();
        List<String> quotes = quotes();
        Check.due("how many sections", sections.size(), 46);
        for (String quote : quotes) {
            String section = sections.getOrDefault(keyOf(quote), "");
            Check.due("the document says, " + quote, section.contains(wordsOf(quote)), true);
        }
        for (Map.Entry<String, String> section : sections.entrySet()) {
            Check.due("a test of " + section.getKey(), quotes.stream()
                    .anyMatch(quote -> keyOf(quote).equals(section.getKey())), true);
            for (String thrown : thrownIn(section.getValue())) {
                Check.due("a test of " + section.getKey() + ": " + thrown, quotes.stream()
                        .anyMatch(quote -> keyOf(quote).equals(section.getKey())
                            && thrown.contains(wordsOf(quote))), true);
            }
        }
        Check.end("SentencesTest");
    }

    private static String keyOf(String quote) {
        return quote.substring(0, quote.indexOf(": "));
    }

    private static String wordsOf(String quote) {
        return quote.substring(quote.indexOf(": ") + 2);
    }

    private static List<String> quotes() {
        List<String> quotes = new ArrayList<>();
        for (Class<?> tests : TESTS) {
            Check.testsOf(tests).forEach(
                    test -> quotes.add(test.getAnnotation(Says.class).value()));
        }
        return quotes;
    }

    /** The words of each part of the document, each paragraph in a line of its own. */
    private static Map<String, String> sections() throws IOException {
        Map<String, String> sections = new HashMap<>();
        for (String part : Files.readString(DOCUMENT).replace("`", "").split("(?m)^#+ ")) {
            String key = part.split("[:\n]")[0].replace("Promise ", "").replace("What it is",
                    "Rootsong");
            String words = part.replaceAll("\n(?!\n|- )", " ").replaceAll(" *\n+ *", "\n");
            if (key.matches("Rootsong|Terms|[0-9]+")) {
                sections.merge(key, words, String::concat);
            }
        }
        return sections;
    }

    private static List<String> thrownIn(String section) {
        return section.lines().map(String::strip)
                .filter(line -> line.startsWith("Throws ")).toList();
    }
}
