import java.util.Random;

/** Runs of drawn calls, each answered by the class and by the plain model alike. */
public final class RandomRunsTest {
    private static final int RUNS = 3000;
    private static final int CALLS = 512;
    private static final String[] WORDS = {"question", "worth", "from", "last", "left", "bundle", "brings", "open",
        "kept", "gained", "lost", "wasted", "day"};
    private static final String[] NOISE = {";", " ", "[", "]", "not", "or ", "and ", "<", "<=", "=", ">", "+", "-",
        "*", "/", "%", "ask ", "if ", "realm ", "question ", "alike ", "wakes ", "0", "61", "100000", "x", "\u0000",
        "\u00e9", "A", "not [", "notworth", "1=1"};

    private final Random random;
    private final OneDecision real = new OneDecision();
    private final PlainModel plain = new PlainModel();
    private final StringBuilder log = new StringBuilder();
    private int calls;
    private boolean wrong;

    private RandomRunsTest(long seed) {
        random = new Random(seed);
    }

    public static void main(String[] args) {
        int wrong = 0;
        for (int run = 0; run < RUNS && wrong < 5; run++) {
            RandomRunsTest test = new RandomRunsTest(run);
            test.run();
            if (test.wrong) {
                wrong++;
                System.out.println("run " + run + ":\n" + test.log);
            }
        }
        if (wrong != 0) {
            System.exit(1);
        }
    }

    private int below(int n) {
        return random.nextInt(n);
    }

    private void run() {
        while (calls < CALLS - 60 && !wrong) {
            if (calls == 0 && below(10) > 0) {
                tell(aRealm(), true);
            }
            if (below(25) == 0) {
                boolean realm = below(3) == 0;
                String text = realm ? aRealm() : aRule();
                tell(below(3) == 0 ? spoiled(text) : text, realm);
            } else {
                call();
            }
        }
    }

    private void due(String call, int got, int want) {
        calls++;
        log.append(call).append(" = ").append(got).append('\n');
        if (got != want) {
            wrong = true;
            log.append("  due is ").append(want).append('\n');
        }
    }

    private void tell(String text, boolean realm) {
        due("end(0)", real.end(0), plain.end(0));
        int length = Math.min(400, text.length());
        for (int i = 0; i < length; i += 20) {
            int[] fours = Texts.fours(text, i);
            due("feed", real.feed(fours[0], fours[1], fours[2], fours[3], fours[4]),
                    plain.feed(fours[0], fours[1], fours[2], fours[3], fours[4]));
        }
        due("end(" + length + ")", real.end(length), plain.end(length));
        log.append('"').append(text).append("\"\n");
        if (realm) {
            due("realm()", real.realm(), plain.realm());
        } else {
            due("rule()", real.rule(), plain.rule());
        }
    }

    private String blank() {
        return below(8) == 0 ? " " : "";
    }

    private String aRealm() {
        StringBuilder text = new StringBuilder();
        text.append("realm ").append(below(below(3) == 0 ? 10 : 3)).append(' ').append(below(10));
        int span = below(4) == 0 ? 61 : 1 + below(12);
        int questions = below(9);
        int told = 0;
        for (int clause = 0; clause < 22; clause++) {
            int kind = below(3);
            if (told < questions && kind < 2) {
                int from = below(span);
                int last = Math.min(60, from + below(below(3) == 0 ? 20 : 4));
                text.append(blank()).append(";question ").append(below(4) == 0 ? 0 : below(100)).append(blank());
                text.append(' ').append(from).append(' ').append(last);
                told++;
            } else if (kind == 0 && told > 1) {
                int one = below(told);
                text.append(";alike ").append(one).append(' ').append((one + 1 + below(told - 1)) % told);
            } else if (kind == 2 && below(2) == 0) {
                text.append("; wakes ").append(below(span)).append(blank());
            }
        }
        return text.toString();
    }

    private String aRule() {
        StringBuilder text = new StringBuilder();
        int clauses = 1 + below(below(5) == 0 ? 12 : 4);
        for (int i = 0; i < clauses; i++) {
            text.append(i == 0 ? "" : ";").append("ask ").append(aSum());
            if (below(4) > 0) {
                text.append(" if ").append(aTest(0));
            }
        }
        return text.toString();
    }

    private String aSum() {
        StringBuilder text = new StringBuilder(aValue());
        for (int more = below(4) == 0 ? below(6) : below(2); more > 0; more--) {
            text.append(blank()).append("+-*/%".charAt(below(5))).append(blank()).append(aValue());
        }
        return text.toString();
    }

    private String aValue() {
        return below(3) == 0 ? String.valueOf(below(below(5) == 0 ? 100000 : 20)) : WORDS[below(WORDS.length)];
    }

    private String aTest(int depth) {
        StringBuilder text = new StringBuilder(aFact(depth));
        for (int more = below(3) == 0 ? below(3) : 0; more > 0; more--) {
            text.append(below(2) == 0 ? " and " : " or ").append(aFact(depth));
        }
        return text.toString();
    }

    private String aFact(int depth) {
        int kind = below(depth > 3 && below(40) > 0 ? 3 : 6);
        if (kind == 4) {
            return "not " + aFact(depth + 1);
        }
        if (kind == 5) {
            return "[" + blank() + aTest(depth + 1) + blank() + "]";
        }
        String[] signs = {"<", "<=", "=", ">=", ">"};
        return aSum() + blank() + signs[below(5)] + blank() + aSum();
    }

    private String spoiled(String text) {
        StringBuilder spoiled = new StringBuilder(text);
        for (int times = 1 + below(2); times > 0; times--) {
            int at = below(spoiled.length() + 1);
            int kind = below(4);
            if (kind == 0) {
                spoiled.insert(at, NOISE[below(NOISE.length)]);
            } else if (kind == 1) {
                spoiled.delete(at, Math.min(spoiled.length(), at + 1 + below(3)));
            } else if (kind == 2) {
                spoiled.setLength(at);
            } else {
                int from = below(spoiled.length() + 1);
                String again = spoiled.substring(Math.min(from, at), Math.max(from, at));
                for (int i = below(5); i >= 0; i--) {
                    spoiled.insert(Math.max(from, at), again);
                }
            }
            if (spoiled.length() > 400) {
                spoiled.setLength(400);
            }
        }
        return spoiled.toString();
    }

    /** Mostly from least to most, now and then beside. */
    private int about(int least, int most) {
        return below(30) == 0 ? (below(2) == 0 ? least - 1 : most + 1) : least + below(most - least + 1);
    }

    private int q() {
        int questions = real.count(2);
        return below(30) == 0 ? questions - below(2) * 20 : questions == 0 ? 0 : below(questions);
    }

    private int days() {
        return below(3) == 0 ? about(1, 60) : about(1, 12);
    }

    private void call() {
        int a = q();
        int b = q();
        int n = days();
        int kind = below(30);
        switch (kind) {
            case 0, 1 -> due("day()", real.day(), plain.day());
            case 2 -> due("use(" + a + ")", real.use(a), plain.use(a));
            case 3 -> due("egg()", real.egg(), plain.egg());
            case 4 -> due("tie(" + a + ", " + b + ")", real.tie(a, b), plain.tie(a, b));
            case 5 -> {
                int more = about(1, 99);
                due("grow(" + a + ", " + more + ")", real.grow(a, more), plain.grow(a, more));
            }
            case 6 -> due("undo()", real.undo(), plain.undo());
            case 7 -> {
                int what = about(0, 3);
                due("ahead(" + a + ", " + n + ", " + what + ")", real.ahead(a, n, what), plain.ahead(a, n, what));
            }
            case 8 -> {
                int what = about(0, 1);
                due("fate(" + a + ", " + what + ")", real.fate(a, what), plain.fate(a, what));
            }
            case 9 -> {
                int few = below(3) == 0 ? about(1, 4) : about(1, 2);
                int what = about(0, 4);
                due("row(" + few + ", " + what + ")", real.row(few, what), plain.row(few, what));
            }
            case 10 -> {
                int what = about(0, 2);
                due("bind(" + n + ", " + what + ")", real.bind(n, what), plain.bind(n, what));
            }
            case 11 -> {
                int what = about(0, 1);
                due("rescue(" + n + ", " + what + ")", real.rescue(n, what), plain.rescue(n, what));
            }
            case 12 -> {
                int what = about(0, 1);
                due("cover(" + what + ")", real.cover(what), plain.cover(what));
            }
            case 13 -> due("today(" + n + ")", real.today(n), plain.today(n));
            case 14 -> {
                int what = about(0, 1);
                int few = about(1, 20);
                due("waste(" + few + ", " + what + ")", real.waste(few, what), plain.waste(few, what));
            }
            case 15 -> {
                int much = below(2) == 0 ? about(0, 9999) : below(20);
                due("blame(" + much + ", " + a + ")", real.blame(much, a), plain.blame(much, a));
            }
            case 16 -> callWoke();
            case 17 -> callNote();
            default -> callMore(kind);
        }
    }

    private void callWoke() {
        if (below(6) > 0) {
            return;
        }
        int rule = about(-1, Math.max(0, real.count(3) - 1));
        int n = below(4) == 0 ? about(1, 60) : about(1, 9);
        int gained = below(30) == 0 ? about(0, 99999) : below(3) == 0 ? below(100) : Math.max(0, real.ahead(0, n, 1));
        int what = about(0, 2);
        due("woke(" + rule + ", " + n + ", " + gained + ", " + what + ")", real.woke(rule, n, gained, what),
                plain.woke(rule, n, gained, what));
    }

    private void callNote() {
        int n = below(8) == 0 ? -1 : below(10) == 0 ? about(0, 60) : below(5);
        int question = below(3) == 0 ? -1 : q();
        due("note(" + n + ", " + question + ")", real.note(n, question), plain.note(n, question));
    }

    private void callMore(int kind) {
        switch (kind) {
            case 18 -> {
                int what = about(0, 1);
                due("ruled(" + what + ")", real.ruled(what), plain.ruled(what));
            }
            case 19 -> {
                int what = about(0, 1);
                due("look(" + what + ")", real.look(what), plain.look(what));
            }
            case 20 -> {
                int x = below(8) == 0 ? -below(3) : random.nextInt() >>> 1;
                due("seed(" + x + ")", real.seed(x), plain.seed(x));
            }
            case 21 -> {
                int m = about(1, 10);
                int n = days();
                int p = about(0, 100);
                int what = about(0, 1);
                due("reigns(" + m + ", " + n + ", " + p + ", " + what + ")", real.reigns(m, n, p, what),
                        plain.reigns(m, n, p, what));
            }
            case 22 -> {
                int k = about(0, 3);
                due("image(" + k + ")", real.image(k), plain.image(k));
            }
            case 23 -> {
                int k = about(0, 3);
                if (below(3) == 0) {
                    due("back(" + k + ")", real.back(k), plain.back(k));
                }
            }
            case 24 -> {
                int rule = about(-1, Math.max(0, real.count(3) - 1));
                due("force(" + rule + ")", real.force(rule), plain.force(rule));
            }
            case 25, 26, 27 -> {
                int a = q();
                int what = about(0, 6);
                due("question(" + a + ", " + what + ")", real.question(a, what), plain.question(a, what));
            }
            default -> {
                int what = about(0, 16);
                due("count(" + what + ")", real.count(what), plain.count(what));
            }
        }
    }
}
