import java.io.IOException;
import java.nio.file.Files;
import java.nio.file.Path;
import java.util.ArrayList;
import java.util.LinkedHashMap;
import java.util.List;
import java.util.Map;

/**
 * Tests that bear the document's own words. Each is told with the part of the document and the words
 * that it tests, so that the document can be asked afterwards for a sentence that no test bears.
 */
final class Edge {
    private static final Path DOCUMENT = Path.of("..", "shared", "DOC.md");
    private static final Map<String, List<String>> TESTED = new LinkedHashMap<>();
    private static int tests = 0;

    private Edge() {
    }

    static void test(String part, String words, Check.Call body) {
        TESTED.computeIfAbsent(part, p -> new ArrayList<>()).add(words);
        tests++;
        int before = Check.checks();
        Check.about(part + ", \"" + words + "\": ");
        try {
            body.run();
        } catch (RuntimeException e) {
            Check.tell("the test itself ended with " + e);
        }
        Check.yes("the test checks something", Check.checks() > before);
        Check.about("");
    }

    static void promise(int number, String words, Check.Call body) {
        test("Promise " + number, words, body);
    }

    static void terms(String words, Check.Call body) {
        test("Terms", words, body);
    }

    /** Each sentence of 'Terms' and of the promises has a test, and no test bears words that are not there. */
    static void compareWithDocument() throws IOException {
        if (!Files.exists(DOCUMENT)) {
            System.out.println(tests + " tests; there is no " + DOCUMENT + " here to compare them with");
            return;
        }
        Map<String, String> document = partsOf(Files.readString(DOCUMENT));
        int sentences = 0;
        for (Map.Entry<String, String> part : document.entrySet()) {
            List<String> tested = TESTED.getOrDefault(part.getKey(), List.of());
            for (String sentence : sentencesOf(part.getValue())) {
                sentences++;
                Check.yes(part.getKey() + ": no test for: " + sentence,
                        tested.stream().anyMatch(sentence::contains));
            }
        }
        for (Map.Entry<String, List<String>> part : TESTED.entrySet()) {
            for (String words : part.getValue()) {
                Check.yes(part.getKey() + " does not say: " + words,
                        document.getOrDefault(part.getKey(), "").contains(words));
            }
        }
        System.out.println(tests + " tests for " + sentences + " sentences of the document");
    }

    private static Map<String, String> partsOf(String document) {
        Map<String, String> parts = new LinkedHashMap<>();
        for (String part : document.split("(?m)^## ")) {
            String heading = part.lines().findFirst().orElse("");
            String name = heading.replaceAll(":.*", "");
            if (name.equals("Terms") || name.startsWith("Promise ")) {
                parts.put(name, plain(part.substring(heading.length())));
            }
        }
        return parts;
    }

    /** Without the fences and a promise's signature, and on one line. */
    private static String plain(String text) {
        return text.replaceAll("```(text)?", "").strip().replaceFirst("^`[^`]*`: ", "").replaceAll("\\s+", " ");
    }

    /** A sentence ends with a full stop behind a word; the two dots of '0 .. 3' end none. */
    private static String[] sentencesOf(String text) {
        return text.split("(?<=[^ .]\\.) ");
    }
}
