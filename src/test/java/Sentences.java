import java.io.IOException;
import java.nio.file.Files;
import java.nio.file.Path;
import java.util.Arrays;

/** Answers due by sentences of the document: each sentence is quoted as it stands there and has answers of its own. */
final class Sentences {
    private static final int WHATS_OF_COUNT = 17;
    private static final int MOST_QUESTIONS = 8;
    private static final int WHATS_OF_QUESTION = 7;

    private final String document;
    private String sentence;
    private int sentences;
    private int answersOfSentence;
    private int wrong;

    private Sentences(String document) {
        this.document = document;
    }

    static Sentences of(String[] args) throws IOException {
        Path root = Path.of(args.length > 0 ? args[0] : ".");
        return new Sentences(Files.readString(root.resolve("../shared/DOC.md")));
    }

    /** What is due from here on is due by this. */
    void says(String quoted) {
        endSentence();
        sentence = quoted;
        sentences++;
        if (!document.contains(quoted)) {
            tell("does not stand in the document");
        }
    }

    void due(String call, long got, long want) {
        answersOfSentence++;
        if (got != want) {
            tell(call + " answered " + got + ", due is " + want);
        }
    }

    /** A new object with this realm. */
    OneDecision in(String realm) {
        OneDecision x = new OneDecision();
        if (Texts.realm(x, realm) < 0) {
            tell("no realm: " + realm);
        }
        return x;
    }

    /** A rule is told, and in force. */
    OneDecision byRule(OneDecision x, String rule) {
        int number = Texts.rule(x, rule);
        if (number < 0) {
            tell("no rule: " + rule);
        }
        x.force(number);
        return x;
    }

    /** All that can be seen of an object as it stands. */
    static int[] sight(OneDecision x) {
        int[] seen = new int[WHATS_OF_COUNT + MOST_QUESTIONS * WHATS_OF_QUESTION];
        for (int i = 0; i < seen.length; i++) {
            int behind = i - WHATS_OF_COUNT;
            seen[i] = behind < 0 ? x.count(i) : x.question(behind / WHATS_OF_QUESTION, behind % WHATS_OF_QUESTION);
        }
        return seen;
    }

    /** Nothing happened since it was seen so. */
    void stays(OneDecision x, int[] seen) {
        int[] now = sight(x);
        int differs = Arrays.mismatch(seen, now);
        answersOfSentence++;
        if (differs >= 0) {
            tell("something happened: place " + differs + " of what can be seen was " + seen[differs] + ", is "
                    + now[differs]);
        }
    }

    /** Numbers that are not from least to most, beside it and far off. */
    static int[] outside(int least, int most) {
        return new int[] {Integer.MIN_VALUE, least - 1, most + 1, Integer.MAX_VALUE};
    }

    /** Ends the program with 1, if an answer was wrong. */
    void close() {
        endSentence();
        System.out.println(sentences + " sentences, " + wrong + " faults");
        if (wrong != 0 || sentences == 0) {
            System.exit(1);
        }
    }

    private void endSentence() {
        if (sentence != null && answersOfSentence == 0) {
            tell("has no answers");
        }
        answersOfSentence = 0;
    }

    private void tell(String fault) {
        wrong++;
        System.out.println("\"" + sentence + "\": " + fault);
    }
}
