import java.util.Arrays;
import java.util.Random;

/** Texts drawn close to each limit of the languages, read by the class and by the plain model alike. */
public final class DrawnTextsTest {
    private static final int TEXTS = 60000;
    private static final int MOST_BYTES = 400;
    private static final String[] VALUES = {"question", "worth", "from", "last", "left", "bundle", "brings", "open",
        "kept", "gained", "lost", "wasted", "day", "0", "1", "7", "99999", "00000"};
    private static final String[] SIGNS = {"<", "<=", "=", ">=", ">"};
    private static final String[] STRANGE = {"", " ", ";", "[", "]", "not", "or", "and", "if", "ask", "realm", "alike",
        "wakes", "question", "days", "as", "askk", "< =", "=<", "==", "<>", "->", "+", "-1", "%", "100000", "000000",
        "61", "60", "8", "9", "10", "Z", "`", "{", "/", ":", "\u0000", "\u00ff", "\t", "(", ")"};
    private static final String REALM = "realm 3 7;question 40 0 3;question 25 0 1;question 9 1 4;question 70 2 2;"
            + "question 0 0 5;alike 0 1;alike 2 3;alike 1 4;wakes 2";

    private final Random random;
    private final OneDecision real = new OneDecision();
    private final PlainModel plain = new PlainModel();

    private DrawnTextsTest(long seed) {
        random = new Random(seed);
    }

    public static void main(String[] args) {
        int wrong = 0;
        int faultless = 0;
        int[] faults = new int[8];
        for (int i = 0; i < TEXTS && wrong < 5; i++) {
            DrawnTextsTest test = new DrawnTextsTest(i);
            boolean realm = i % 3 == 0;
            String text = test.aText(realm);
            int got = test.told(text, realm);
            wrong += test.isAsDue(text, realm, got) ? 0 : 1;
            if (got >= 0) {
                faultless++;
            } else {
                faults[(-3 - got) % 8]++;
            }
        }
        for (int kind = 0; kind <= 4; kind++) {
            wrong += faults[kind] > TEXTS / 300 ? 0 : 1;
        }
        System.out.println(faultless + " faultless, by kind of fault " + Arrays.toString(faults));
        if (wrong != 0 || faultless < TEXTS / 5) {
            System.exit(1);
        }
    }

    private int told(String text, boolean realm) {
        Texts.feed(real, text);
        return realm ? real.realm() : real.rule();
    }

    private boolean isAsDue(String text, boolean realm, int got) {
        feedPlain(text);
        int due = realm ? plain.realm() : plain.rule();
        boolean same = got == due && real.count(16) == 0;
        if (same && got >= 0) {
            same = realm ? seemsSame() : worksSame();
        }
        if (!same) {
            System.out.println("\"" + text + "\" answered " + got + ", due is " + due + ", or it works otherwise");
        }
        return same;
    }

    private void feedPlain(String text) {
        for (int i = 0; i < text.length(); i += 20) {
            int[] fours = Texts.fours(text, i);
            plain.feed(fours[0], fours[1], fours[2], fours[3], fours[4]);
        }
        plain.end(text.length());
    }

    /** What was told of a realm. */
    private boolean seemsSame() {
        boolean same = real.count(0) == plain.count(0) && real.count(1) == plain.count(1);
        for (int question = 0; question < 8; question++) {
            for (int what = 0; what <= 6; what++) {
                same &= real.question(question, what) == plain.question(question, what);
            }
        }
        for (int day = 0; day <= 61; day++) {
            same &= real.count(12) == plain.count(12) && real.day() == plain.day();
        }
        return same;
    }

    /** What a rule puts to the king, day by day. */
    private boolean worksSame() {
        Texts.realm(real, REALM);
        feedPlain(REALM);
        plain.realm();
        boolean same = real.force(0) == plain.force(0);
        for (int day = 0; day <= 6; day++) {
            same &= real.day() == plain.day() && real.count(8) == plain.count(8);
        }
        return same;
    }

    private int below(int n) {
        return random.nextInt(n);
    }

    private String one(String[] of) {
        return of[below(of.length)];
    }

    private String blank() {
        return below(12) == 0 ? " ".repeat(1 + below(2)) : "";
    }

    private String aText(boolean realm) {
        String text = realm ? aRealm() : aRule();
        if (below(2) == 0) {
            int at = below(text.length() + 1);
            text = text.substring(0, at) + one(STRANGE) + text.substring(Math.min(text.length(), at + below(3)));
        }
        return text.substring(0, Math.min(MOST_BYTES, text.length()));
    }

    /** Up to nine questions, clauses about forty. */
    private String aRealm() {
        StringBuilder text = new StringBuilder("realm ").append(below(10)).append(' ').append(below(10));
        int questions = below(10);
        int clauses = below(3) == 0 ? 38 + below(4) : questions + below(12);
        for (int i = 0; i < questions; i++) {
            int from = below(61);
            text.append(blank()).append(";question").append(blank()).append(below(100)).append(' ').append(from);
            text.append(' ').append(from + below(61 - from)).append(blank());
        }
        for (int i = questions + 1; i < clauses; i++) {
            if (questions > 1 && below(3) == 0) {
                int first = below(questions);
                text.append(";alike").append(first).append(' ').append((first + 1 + below(questions - 1)) % questions);
            } else {
                text.append(";wakes").append(blank()).append(below(61));
            }
        }
        return text.toString();
    }

    /** Clauses about twelve, or values about sixty, or signs about ten deep, or of all some. */
    private String aRule() {
        switch (below(4)) {
            case 0:
                return clauses(11 + below(3), 1, 3);
            case 1:
                return longSum(59 + below(3));
            case 2:
                return "ask 1 if " + deep(8 + below(4));
            default:
                return clauses(1 + below(5), 4, 5);
        }
    }

    private String clauses(int n, int mostValues, int depth) {
        StringBuilder text = new StringBuilder();
        for (int i = 0; i < n; i++) {
            text.append(i == 0 ? "" : ";").append(blank()).append("ask ").append(sum(1 + below(mostValues)));
            if (below(3) > 0) {
                text.append(" if").append(deep(below(depth)));
            }
        }
        return text.toString();
    }

    /** So many values and signs in all, some of them behind "if". */
    private String longSum(int counted) {
        int behind = below(2) == 0 ? 0 : 3 + below(20);
        String text = "ask" + blank() + shortSum(counted - behind);
        if (behind == 0) {
            return text;
        }
        int left = 1 + below(behind - 2);
        return text + " if " + shortSum(left) + one(SIGNS) + shortSum(behind - 1 - left);
    }

    private String shortSum(int values) {
        StringBuilder text = new StringBuilder();
        for (int i = 0; i < values; i++) {
            text.append(i == 0 ? "" : "+-*/%".substring(below(5)).substring(0, 1));
            text.append(below(9) == 0 ? one(VALUES) : String.valueOf(below(10)));
        }
        return text.toString();
    }

    private String sum(int values) {
        StringBuilder text = new StringBuilder(one(VALUES));
        for (int i = 1; i < values; i++) {
            text.append(blank()).append("+-*/%".charAt(below(5))).append(blank()).append(one(VALUES));
        }
        return text.toString();
    }

    private String deep(int depth) {
        if (depth == 0) {
            return " " + sum(1 + below(2)) + blank() + one(SIGNS) + blank() + sum(1 + below(2));
        }
        String within = below(2) == 0 ? " not" + deep(depth - 1) : blank() + "[" + deep(depth - 1) + blank() + "]";
        return switch (below(7)) {
            case 0 -> within + " and" + deep(below(2));
            case 1 -> within + " or" + deep(below(2));
            case 2 -> deep(0) + " or" + within;
            case 3 -> deep(0) + " and" + within;
            default -> within;
        };
    }
}
