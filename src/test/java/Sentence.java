import java.io.IOException;
import java.nio.file.Files;
import java.nio.file.Path;
import java.util.LinkedHashSet;
import java.util.Set;
import java.util.regex.Matcher;
import java.util.regex.Pattern;

/** The document's sentences, and which of them have had a test of their own. */
final class Sentence {
    interface Test {
        void run();
    }

    private static final Path DOCUMENT = Path.of("..", "shared", "DOC.md");
    private static final Set<String> PROMISING = Set.of("What it is", "Terms");
    private static final String FACE = "The public face";
    private static final Pattern CALL = Pattern.compile("^(`[^`]*`): ");
    private static final Set<String> TESTED = new LinkedHashSet<>();

    private Sentence() {
    }

    static void of(int promise, String words, Test test) {
        of("Promise " + promise, words, test);
    }

    static void of(String section, String words, Test test) {
        String sentence = section + ": " + words;
        Check.about(sentence);
        int before = Check.held();
        Check.due("thrown out of the test", "nothing", Check.answer(() -> {
            test.run();
            return "nothing";
        }));
        Check.due("the test looks at something", true, Check.held() > before + 1);
        Check.due("the sentence's only test", true, TESTED.add(sentence));
        Check.about("");
    }

    /** Each sentence has a test, and each test is one of a sentence. */
    static void allTested() throws IOException {
        Set<String> sentences = read();
        for (String sentence : sentences) {
            Check.due("there is a test for '" + sentence + "'", true, TESTED.contains(sentence));
        }
        for (String sentence : TESTED) {
            Check.due("the document says '" + sentence + "'", true, sentences.contains(sentence));
        }
    }

    private static Set<String> read() throws IOException {
        Set<String> sentences = new LinkedHashSet<>();
        String section = "";
        for (String line : Files.readAllLines(DOCUMENT)) {
            if (line.startsWith("## ")) {
                section = line.substring(3).replaceFirst("^(Promise \\d+):.*", "$1");
            } else if (section.equals(FACE)) {
                readFace(line.strip(), sentences);
            } else if (PROMISING.contains(section) || section.startsWith("Promise ")) {
                read(section, line, sentences);
            }
        }
        return sentences;
    }

    /** Each line of the program text there, but for its last bracket. */
    private static void readFace(String line, Set<String> sentences) {
        if (!line.isEmpty() && !line.startsWith("```") && !line.equals("}")) {
            sentences.add(FACE + ": " + line);
        }
    }

    /** A row of an argument, of what is returned or thrown, or a paragraph of some sentences. */
    private static void read(String section, String line, Set<String> sentences) {
        if (line.isEmpty()) {
            return;
        }
        if (line.startsWith("- ")) {
            sentences.add(section + ": " + line.substring(2));
            return;
        }
        // Behind the line of the call, and behind a title as 'Rent.', the sentences begin.
        Matcher call = CALL.matcher(line);
        if (call.lookingAt()) {
            sentences.add(section + ": " + call.group(1));
        }
        String words = call.replaceFirst("").replaceFirst("^(Rent|Service)\\. ", "");
        for (String sentence : words.split("(?<=\\.) (?=[A-Z])")) {
            sentences.add(section + ": " + sentence);
        }
    }
}
