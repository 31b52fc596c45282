import java.io.IOException;
import java.lang.reflect.Method;
import java.nio.file.Files;
import java.nio.file.Path;
import java.util.ArrayList;
import java.util.BitSet;
import java.util.HashSet;
import java.util.LinkedHashMap;
import java.util.List;
import java.util.Map;
import java.util.Set;

/**
 * Whether the tests of single sentences and the document fit: each test quotes words that stand there, and each sentence, and
 * each part of one that ends with a semicolon, is quoted by a test or named here as without a boundary case. The public face,
 * which has no sentences, is left to FaceTest. It reads the document, so it is run from the project's folder.
 */
public final class SentencesTest {
    private static final Path DOCUMENT = Path.of("../shared/DOC.md");
    private static final Class<?>[] TESTS = {TermsSentencesTest.class, TextsSentencesTest.class, HistorySentencesTest.class, ErrorsSentencesTest.class,
        ChangesSentencesTest.class, LooksSentencesTest.class, WouldBeSentencesTest.class};
    /** What these say is tested with the sentences behind them, which say where it ends. */
    private static final List<String> WITHOUT_BOUNDARY = List.of(
        "what later calls answer is free.",
        "`int lost(int stripe)`: Returns the lost cells of a stripe.",
        "`int waiting(int place)`: Returns a cell of the queue.",
        "`int failing(int stripe)`: Tells which checks of a stripe do not hold.",
        "`int total(int what)`: Returns a number of the whole store.",
        "`int way(int stripe, int cell)`: Tells by which way a lost cell would be mended.",
        "`int reads(int stripe, int cell)`: Tells how many cells would be read to mend a cell.",
        "`int mended(int stripe, int cell)`: Tells what value a lost cell would have when it was mended.",
        "`int culprit(int stripe)`: Returns the culprit of a stripe.");
    private static int wrong = 0;

    private static void fault(String what) {
        wrong++;
        System.out.println("SentencesTest: " + what);
    }

    public static void main(String[] args) throws IOException {
        Map<String, String> parts = parts(Files.readString(DOCUMENT));
        Map<String, BitSet> quoted = new LinkedHashMap<>();
        parts.forEach((name, text) -> quoted.put(name, new BitSet()));
        Set<String> names = new HashSet<>();
        for (Class<?> tests : TESTS) {
            for (Method test : Sentences.testsOf(tests)) {
                if (!names.add(test.getName())) {
                    fault("there are two tests with the name " + test.getName());
                }
                markQuotes(test, parts, quoted);
            }
        }
        int sentences = 0;
        for (String name : parts.keySet()) {
            if (name.matches("What it is|[A-Z ]+|Promise \\d+")) {
                sentences += lookForTests(name, parts.get(name), quoted.get(name));
            }
        }
        System.out.println("SentencesTest: " + names.size() + " tests for " + sentences + " sentences and parts of sentences, " + wrong + " faults");
        if (wrong > 0 || names.isEmpty() || sentences == 0) {
            System.exit(1);
        }
    }

    /** The document's parts: its chapters, but 'Terms' as the parts below the lines in capital letters. */
    private static Map<String, String> parts(String document) {
        Map<String, String> parts = new LinkedHashMap<>();
        String name = "";
        for (String line : document.split("\n")) {
            if (line.startsWith("## ")) {
                name = line.substring(3).replaceAll("^(Promise \\d+):.*", "$1");
            } else if (line.matches("[A-Z][A-Z ]+")) {
                name = line;
            } else if (!line.isBlank()) {
                parts.merge(name, line.strip(), (above, next) -> above + "\n" + next);
            }
        }
        return parts;
    }

    private static void markQuotes(Method test, Map<String, String> parts, Map<String, BitSet> quoted) {
        Sentence sentence = test.getAnnotation(Sentence.class);
        String text = parts.getOrDefault(sentence.at(), "");
        for (String words : sentence.says()) {
            int at = words.isEmpty() ? -1 : text.indexOf(words);
            if (at < 0) {
                fault(test.getName() + " quotes what " + sentence.at() + " does not say: " + words);
            }
            for (; at >= 0; at = text.indexOf(words, at + 1)) {
                quoted.get(sentence.at()).set(at, at + words.length());
            }
        }
    }

    /** How many sentences and parts of sentences there are. */
    private static int lookForTests(String name, String text, BitSet quoted) {
        int count = 0;
        int from = 0;
        for (String sentence : sentences(text)) {
            int start = text.indexOf(sentence, from);
            from = start + sentence.length();
            int first = quoted.nextSetBit(start);
            boolean tested = first >= 0 && first < from;
            if (tested == WITHOUT_BOUNDARY.contains(sentence)) {
                fault(name + (tested ? ": is tested, though named as without a boundary case: " : ": no test quotes this: ") + sentence);
            }
            count++;
        }
        return count;
    }

    private static List<String> sentences(String text) {
        List<String> found = new ArrayList<>();
        for (String line : text.split("\n")) {
            for (String sentence : line.split("(?<!^\\d\\.)(?<=[.;])\\s+")) {
                found.add(sentence);
            }
        }
        return found;
    }
}
