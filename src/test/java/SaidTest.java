import java.lang.reflect.Method;
import java.util.List;
import java.util.TreeMap;

/** No words of the document are left out: each of "Terms" and of the promises stands in the {@code @Says} of a test. */
public final class SaidTest extends Checks {
    private static final List<Class<? extends Checks>> SAYING =
        List.of(TermsTest.class, TermsAheadTest.class, EdgesTest.class, RefusedTest.class);
    /** Heads and fences say nothing of themselves; the heads of calls are looked up by LanguageTest and ReadmeTest. */
    private static final String[] HEADS = {"## Terms", "```text", "```", "======== \\d", "TEXTS:", "## Promise \\d+: [\\w ]+",
        "`(int|long) \\w+\\([\\w, ]*\\)`:", "Ahead of the calls [\\w`, ]+ the interface says: ----( [a-z ]+\\.)?"};

    public static void main(String[] args) throws Exception {
        test = "SaidTest";
        String document = documentInOneLine();
        if (!document.isEmpty()) {
            String[] sections = document.substring(document.indexOf("## Terms"), document.indexOf("## Not promised"))
                .split("(?=## Promise )");
            due("sections", sections.length, 43);
            for (int promise = 0; promise < sections.length; promise++) {
                allIsSaid(sections[promise], promise);
            }
        }
        end();
    }

    /** A promise's words are those of its own tests, or of tests of the terms. */
    private static void allIsSaid(String section, int promise) {
        boolean[] said = new boolean[section.length()];
        for (Class<? extends Checks> tests : SAYING) {
            TreeMap<String, Method> byName = saying(tests);
            for (String name : byName.keySet()) {
                if (!name.startsWith("promise") || name.startsWith(String.format("promise%02d_", promise))) {
                    mark(said, section, byName.get(name).getAnnotation(Says.class).value());
                }
            }
        }
        StringBuilder left = new StringBuilder();
        for (int i = 0; i < section.length(); i++) {
            left.append(said[i] ? '|' : section.charAt(i));
        }
        String rest = left.toString();
        for (String head : HEADS) {
            rest = rest.replaceAll(head, "|");
        }
        for (String words : rest.split("\\|+")) {
            if (words.matches(".*\\w.*")) {
                fail("section " + promise + ": no test says: " + words.trim());
            }
        }
    }

    private static void mark(boolean[] said, String section, String words) {
        for (int at = section.indexOf(words); at >= 0; at = section.indexOf(words, at + 1)) {
            for (int i = at; i < at + words.length(); i++) {
                said[i] = true;
            }
        }
    }
}
