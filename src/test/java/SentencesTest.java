import java.lang.reflect.Method;
import java.util.ArrayList;
import java.util.Arrays;
import java.util.List;
import java.util.Map;

/** Every sentence of the document that a test can hold the class to has one, and none is quoted that does not stand there. */
public final class SentencesTest {
    /** All that hold their sentences one by one. */
    static final Class<?>[] TESTS = {FaceBoundaryTest.class, TermsBoundaryTest.class, HeirsBoundaryTest.class,
        PersonsBoundaryTest.class, LandsBoundaryTest.class, TiesBoundaryTest.class, YearsBoundaryTest.class};

    /** Words that name no case of their own: sums of what follows, headings, and ties between sentences. */
    private static final String[] WITHOUT_A_CASE = {
        "Kings who trade kingdoms by marriages.",
        "; what later calls answer is free.",
        "Persons are born to couples, marry with treaties of lands, rule under regents as long as they are young, and die; "
            + "who dies leaves lands to heirs by the law of each land; ties are annulled, and lands go back; and it is told "
            + "who would inherit, who is regent, how two are related, who comes to rule when, which marriage joins the most, "
            + "and who ruled a land, told back.",
        "All numbers are whole.",
        "Dying.",
        "Treaty.",
        "Computes a checksum.",
        "Returns this.",
        "Throws `IllegalStateException` if",
        ", and"};

    private static final String[] WITHOUT_A_CASE_PATTERNS = {
        "```(java|text)?",
        "Ahead of the calls [^:]* the interface says: ---- [a-z ]+\\.",
        // The line of the face stands again ahead of each promise, and the names of its arguments in lists.
        "`[^`]*\\)( throws [^`]*)?`:",
        "- `[a-z]+`:"};

    private static final String[] WITHOUT_ANY = {"KingTies", "Not promised"};

    public static void main(String[] args) {
        if (!Document.isThere()) {
            System.out.println("the document is not there: no sentence was looked up");
            return;
        }
        Map<String, String> sections = Document.sections();
        for (Class<?> tests : TESTS) {
            quotesStandThere(tests, sections);
        }
        for (Map.Entry<String, String> section : sections.entrySet()) {
            if (!Arrays.asList(WITHOUT_ANY).contains(section.getKey())) {
                String left = withoutQuotes(Document.plain(section.getValue()), quotesOf(section.getKey()));
                Check.same(section.getKey() + ", words without a test", withoutWordsWithoutACase(left), "");
            }
        }
        Check.end();
    }

    private static void quotesStandThere(Class<?> tests, Map<String, String> sections) {
        Check.same(tests.getName() + " has tests", Sentences.of(tests).isEmpty() ? 0 : 1, 1);
        for (Method test : Sentences.of(tests)) {
            Sentence sentence = test.getAnnotation(Sentence.class);
            String text = Document.plain(sections.getOrDefault(sentence.of(), ""));
            for (String quote : sentence.says()) {
                if (!text.contains(Document.plain(quote))) {
                    Check.fails(Sentences.told(test) + " does not stand there");
                }
            }
            String heading = sentence.of().replace(" ", "").toLowerCase();
            String due = heading.matches("promise\\d") ? heading.replace("promise", "promise0") : heading;
            Check.same("what " + test.getName() + " is named after", test.getName().replaceFirst("_.*", "").toLowerCase(), due);
        }
    }

    private static List<String> quotesOf(String heading) {
        List<String> quotes = new ArrayList<>();
        for (Class<?> tests : TESTS) {
            for (Method test : Sentences.of(tests)) {
                Sentence sentence = test.getAnnotation(Sentence.class);
                if (sentence.of().equals(heading)) {
                    for (String quote : sentence.says()) {
                        quotes.add(Document.plain(quote));
                    }
                }
            }
        }
        return quotes;
    }

    /** The text with a sign for each quote; quotes may share words. */
    private static String withoutQuotes(String text, List<String> quotes) {
        boolean[] quoted = new boolean[text.length()];
        for (String quote : quotes) {
            for (int at = text.indexOf(quote); at >= 0; at = text.indexOf(quote, at + 1)) {
                Arrays.fill(quoted, at, at + quote.length(), true);
            }
        }
        StringBuilder left = new StringBuilder();
        for (int at = 0; at < text.length(); at++) {
            left.append(quoted[at] ? '#' : text.charAt(at));
        }
        return left.toString().replaceAll("#+", "#");
    }

    private static String withoutWordsWithoutACase(String text) {
        String left = text;
        for (String words : WITHOUT_A_CASE) {
            left = left.replace(words, " ");
        }
        for (String pattern : WITHOUT_A_CASE_PATTERNS) {
            left = left.replaceAll(pattern, " ");
        }
        return Document.plain(left.replaceAll("[#.,;:()}]", " "));
    }
}
