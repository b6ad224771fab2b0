import java.io.IOException;

/** The edges that the document names of texts (Terms, part I) and of promises 1 to 6, sentence by sentence. */
public final class TextBoundsTest {
    /** Stands ahead of the place of a fault; no text has it otherwise. */
    private static final char HERE = '^';
    private static final int CANNOT_STAND = 0;
    private static final int NOT_AS_TOLD = 1;
    private static final int TOO_DEEP = 2;
    private static final int VALUE_TOO_MANY = 3;
    private static final int CLAUSE_TOO_MANY = 4;

    private final Sentences doc;

    private TextBoundsTest(Sentences doc) {
        this.doc = doc;
    }

    public static void main(String[] args) throws IOException {
        Sentences doc = Sentences.of(args);
        TextBoundsTest test = new TextBoundsTest(doc);
        test.calls();
        test.realmLengths();
        test.realmNumbers();
        test.realmPairsAndDays();
        test.realmBegin();
        test.ruleLengths();
        test.numbersAndWords();
        test.signs();
        test.arithmetic();
        test.blanks();
        test.nesting();
        test.valuesAndFacts();
        test.faultPlaces();
        test.faultKinds();
        test.faultsOfOnePlace();
        test.newObject();
        test.feed();
        test.end();
        test.realm();
        test.rule();
        test.force();
        doc.close();
    }

    private static int fault(int place, int kind) {
        return -2 - (1 + 8 * place + kind);
    }

    private static String shown(String text) {
        return text.length() > 60 ? text.substring(0, 30) + ".." + text.substring(text.length() - 28) : text;
    }

    private void realmOf(String text, int questions) {
        doc.due("realm \"" + shown(text) + "\"", Texts.realm(new OneDecision(), text), questions);
    }

    private void realmFault(String marked, int kind) {
        String text = marked.replace(String.valueOf(HERE), "");
        doc.due("realm \"" + shown(marked) + "\"", Texts.realm(new OneDecision(), text),
                fault(marked.indexOf(HERE), kind));
    }

    private void ruleOf(String text) {
        doc.due("rule \"" + shown(text) + "\"", Texts.rule(new OneDecision(), text), 0);
    }

    private void ruleFault(String marked, int kind) {
        String text = marked.replace(String.valueOf(HERE), "");
        doc.due("rule \"" + shown(marked) + "\"", Texts.rule(new OneDecision(), text),
                fault(marked.indexOf(HERE), kind));
    }

    /** What a rule puts to the king on the only day of one question of worth 5. */
    private static int putBy(String rule) {
        OneDecision x = new OneDecision();
        Texts.realm(x, "realm 0 0;question 5 0 0");
        Texts.rule(x, rule);
        return x.force(0) == -1 ? x.day() : -2;
    }

    private void holds(String test, boolean want) {
        doc.due("\"" + test + "\"", putBy("ask 1 if " + test), want ? 0 : -1);
    }

    private void calls() {
        doc.says("An object is used for at most 512 calls after it has been made");
        OneDecision x = doc.in("realm 0 0");
        for (int call = 4; call < 512; call++) {
            x.day();
        }
        doc.due("DAY, as the 512th call", x.count(5), 508);
    }

    private void realmLengths() {
        doc.says("A REALM is a text of at most 400 bytes");
        OneDecision full = doc.in("realm 0 0" + " ".repeat(383) + ";wakes 0");
        doc.due("the last of 400 bytes was read", full.count(12), 1);
        realmFault("realm 0 0" + " ".repeat(390) + ";^", CANNOT_STAND);

        doc.says("CLAUSE { ; CLAUSE }, 40 at most");
        realmOf("realm 0 0", 0);
        OneDecision forty = doc.in("realm 0 0" + ";wakes 9".repeat(38) + ";wakes 0");
        doc.due("the fortieth", forty.count(12), 1);
        realmFault("realm 0 0" + ";wakes 9".repeat(39) + ";^wakes 9", CLAUSE_TOO_MANY);

        doc.says("QUESTIONS 0 to 7, in the order told");
        StringBuilder text = new StringBuilder("realm 0 0");
        for (int q = 0; q < 8; q++) {
            text.append(";question ").append(10 * q + 9).append(" 0 0");
        }
        OneDecision eight = new OneDecision();
        doc.due("eight", Texts.realm(eight, text.toString()), 8);
        for (int q = 0; q < 8; q++) {
            doc.due("question(" + q + ", 0)", eight.question(q, 0), 10 * q + 9);
        }
        doc.due("question(8, 0)", eight.question(8, 0), -1);
        doc.due("question(-1, 0)", eight.question(-1, 0), -1);
        realmFault(text + ";^question 1 0 0", CLAUSE_TOO_MANY);
    }

    private void realmNumbers() {
        doc.says("KEEPS 0 to 9, decisions he can keep");
        doc.due("KEEPS 0", doc.in("realm 0 1").count(0), 0);
        doc.due("KEEPS 9", doc.in("realm 9 1").count(0), 9);
        realmFault("realm ^10 0", NOT_AS_TOLD);
        realmFault("realm ^-1 0", CANNOT_STAND);

        doc.says("HALF 0 to 9, tenths of its WORTH that a question brings which is answered in a bundle");
        doc.due("HALF 0", doc.in("realm 1 0").count(1), 0);
        doc.due("HALF 9", doc.in("realm 1 9").count(1), 9);
        realmFault("realm 0 ^10", NOT_AS_TOLD);

        doc.says("once, the first CLAUSE");
        realmFault("realm 0 0;^realm 0 0", CLAUSE_TOO_MANY);
        realmFault("^wakes 0;realm 0 0", CLAUSE_TOO_MANY);
        realmFault("^question 0 0 0;realm 0 0", CLAUSE_TOO_MANY);
        realmFault("^alike 0 0;realm 0 0", CLAUSE_TOO_MANY);

        doc.says("WORTH 0 to 99");
        doc.due("WORTH 0", doc.in("realm 0 0;question 0 1 1").question(0, 0), 0);
        doc.due("WORTH 99", doc.in("realm 0 0;question 99 1 1").question(0, 0), 99);
        realmFault("realm 0 0;question ^100 1 1", NOT_AS_TOLD);

        doc.says("FROM 0 to 60, the first DAY it is there");
        doc.due("FROM 0", doc.in("realm 0 0;question 1 0 1").question(0, 1), 0);
        doc.due("FROM 60", doc.in("realm 0 0;question 1 60 60").question(0, 1), 60);
        realmFault("realm 0 0;question 1 ^61 61", NOT_AS_TOLD);

        doc.says("LAST 0 to 60, not below FROM");
        doc.due("LAST 0", doc.in("realm 0 0;question 1 0 0").question(0, 2), 0);
        doc.due("LAST 60", doc.in("realm 0 0;question 1 0 60").question(0, 2), 60);
        doc.due("LAST is FROM", doc.in("realm 0 0;question 1 30 30").question(0, 2), 30);
        realmFault("realm 0 0;question 1 0 ^61", NOT_AS_TOLD);
        realmFault("realm 0 0;question 1 30 ^29", NOT_AS_TOLD);
        realmFault("realm 0 0;question 1 60 ^59", NOT_AS_TOLD);
    }

    private void realmPairsAndDays() {
        doc.says("two QUESTIONS that were told; told already: nothing new");
        String two = "realm 0 0;question 1 0 0;question 1 0 0";
        OneDecision x = doc.in(two + ";alike 0 1;alike 0 1;alike 1 0");
        doc.due("alike to 0", x.question(0, 5), 2);
        doc.due("alike to 1", x.question(1, 5), 1);
        realmFault("realm 0 0;alike ^0 1", NOT_AS_TOLD);
        realmFault(two + ";alike ^2 0", NOT_AS_TOLD);
        realmFault(two + ";alike 0 ^2;question 1 0 0", NOT_AS_TOLD);
        realmFault(two + ";alike 1 ^1", NOT_AS_TOLD);
        String eight = "realm 0 0" + ";question 1 0 0".repeat(8);
        doc.due("the last alike to the first", doc.in(eight + ";alike 7 0").question(7, 5), 1);
        realmFault(eight + ";alike 7 ^8", NOT_AS_TOLD);

        doc.says("a DAY, 0 to 60, on which he gets up by himself; told already: nothing new");
        OneDecision days = doc.in("realm 0 0;wakes 60;wakes 0;wakes 60;wakes 0");
        for (int day = 0; day <= 64; day++) {
            doc.due("wakes on DAY " + day, days.count(12), day == 0 || day == 60 ? 1 : 0);
            days.day();
        }
        doc.due("WASTED", days.count(10), 2);
        realmFault("realm 0 0;wakes ^61", NOT_AS_TOLD);
    }

    private void realmBegin() {
        doc.says("It is DAY 0; nothing is answered, nothing lost, nothing kept.");
        OneDecision x = doc.in("realm 9 5;question 5 0 0;question 6 0 0;question 7 0 0;alike 0 1;wakes 1");
        x.day();
        x.day();
        x.day();
        x.egg();
        Texts.realm(x, "realm 9 5;question 5 0 0;question 6 0 0;question 7 0 0");
        int[] wants = {9, 5, 3, 0, -1, 0, 7, 0, 0, 0, 0, 0, 0, 0, 0, 0, 0};
        for (int what = 0; what < wants.length; what++) {
            doc.due("count(" + what + ")", x.count(what), wants[what]);
        }
        for (int q = 0; q < 3; q++) {
            doc.due("question(" + q + ", 3)", x.question(q, 3), 0);
            doc.due("question(" + q + ", 5)", x.question(q, 5), 0);
        }
    }

    private void ruleLengths() {
        doc.says("texts likewise, 12 CLAUSES at most");
        ruleOf("ask 1");
        doc.due("the last of 400 bytes was read", putBy("ask 1 if" + " ".repeat(388) + "0=10"), -1);
        ruleFault("ask 1" + " ".repeat(394) + ";^", CANNOT_STAND);
        doc.due("the twelfth", putBy("ask 1 if 0=1;".repeat(11) + "ask 1"), 0);
        ruleFault("ask 1;".repeat(12) + "^ask 1", CLAUSE_TOO_MANY);

        doc.says("RULES 0 to 5");
        OneDecision x = new OneDecision();
        for (int i = 0; i < 6; i++) {
            doc.due("rule " + i, Texts.rule(x, "ask 1"), i);
        }
        doc.due("rule 6", Texts.rule(x, "ask 1"), -1);
        doc.due("RULES", x.count(3), 6);
    }

    private void numbersAndWords() {
        doc.says("NUMBER (1 to 5 digits, as far as digits go on)");
        holds("99999=99998+1", true);
        holds("00000=0", true);
        holds("00012=12", true);
        realmOf("realm 00009 00000", 0);
        ruleFault("ask ^100000", NOT_AS_TOLD);
        ruleFault("ask ^000001", NOT_AS_TOLD);
        realmFault("realm ^000000 0", NOT_AS_TOLD);
        ruleFault("ask 12345^worth", CANNOT_STAND);

        doc.says("WORDS (small letters, as far as these go on)");
        ruleOf("ask worth+left if question=0and day=0or open=1");
        realmOf("realm1 2;question3 4 5;wakes6", 1);
        ruleFault("^asks 1", CANNOT_STAND);
        ruleFault("^as 1", CANNOT_STAND);
        for (String other : new String[] {"bsk", "zsk", "atk", "asj", "asl"}) {
            ruleFault("^" + other + " 1", CANNOT_STAND);
        }
        realmFault("^sealm 0 0", CANNOT_STAND);
        realmFault("realm 0 0;^vakes 0", CANNOT_STAND);
        realmFault("realm 0 0;^waket 0", CANNOT_STAND);
        ruleFault("ask ^wortha", CANNOT_STAND);
        ruleFault("ask ^worthz", CANNOT_STAND);
        ruleFault("ask ^wort", CANNOT_STAND);
        ruleFault("ask ^Worth", CANNOT_STAND);
        ruleFault("ask ^wortH", CANNOT_STAND);
        ruleFault("ask 1 ^ifworth=1", CANNOT_STAND);
        ruleFault("ask worth^{", CANNOT_STAND);
        ruleFault("ask worth^`", CANNOT_STAND);
        ruleFault("ask 1^:", CANNOT_STAND);

        doc.says("left (LAST less DAY)");
        OneDecision x = doc.in("realm 0 0;question 5 0 2");
        doc.byRule(x, "ask 1 if left=0");
        doc.due("two left", x.day(), -1);
        doc.due("one left", x.day(), -1);
        doc.due("none left", x.day(), 0);
    }

    private void signs() {
        doc.says("SIGN one of < <= = >= >");
        String[] signs = {"<", "<=", "=", ">=", ">"};
        boolean[][] wants = {{true, false, false}, {true, true, false}, {false, true, false}, {false, true, true},
            {false, false, true}};
        for (int i = 0; i < signs.length; i++) {
            for (int left = 4; left <= 6; left++) {
                holds(left + signs[i] + "5", wants[i][left - 4]);
            }
        }
        ruleFault("ask 1 if 1<^>2", CANNOT_STAND);
        ruleFault("ask 1 if 1=^=2", CANNOT_STAND);
        ruleFault("ask 1 if 1<=^=2", CANNOT_STAND);
        ruleFault("ask 1 if 1=^>2", CANNOT_STAND);
        ruleFault("ask 1 if 1<2^<3", CANNOT_STAND);
    }

    private void arithmetic() {
        String least = "65536*65536*65536*32768";
        doc.says("/ is towards 0, % its rest, both 0 by 0");
        holds("7/2=3", true);
        holds("7%2=1", true);
        holds(least + "/3*3=" + least + "+2", true);
        holds(least + "%3=0-2", true);
        holds("7/0=0", true);
        holds("7%0=0", true);
        holds("0/0=0", true);
        holds(least + "/0=0", true);
        holds(least + "%0=0", true);

        doc.says("all goes round in 64 bits");
        holds("65536*65536>0", true);
        holds("65536*65536*65536*32767>0", true);
        holds(least + "<0", true);
        holds(least + "-1>0", true);
        holds("65536*65536*65536*65536=0", true);
        doc.due("ask 2^63 - 1", putBy("ask " + least + "-1"), 0);
        doc.due("ask 2^63", putBy("ask " + least), -1);
        doc.due("ask 2^64", putBy("ask 65536*" + least + "*2"), -1);
    }

    private void blanks() {
        doc.says("Blanks (32) stand between as one likes.");
        ruleOf("  ask   1   if   not   [   1   <=   2   ]   ;   ask   1   ");
        ruleOf("ask1if not[1<=2];ask1");
        realmOf("realm0 0;question0 0 0;wakes0", 1);
        realmOf("   realm   0   0   ;   wakes   0   ", 0);
        ruleFault("^as k 1", CANNOT_STAND);
        ruleFault("ask 1 ^2", CANNOT_STAND);
        ruleFault("ask 1 if 1 < ^= 2", CANNOT_STAND);
        ruleFault("ask 1^\t", CANNOT_STAND);
        ruleFault("^\nask 1", CANNOT_STAND);
        ruleFault("ask^" + (char) 0 + "1", CANNOT_STAND);
        ruleFault("ask 1^" + (char) 31, CANNOT_STAND);
        ruleFault("ask 1^" + (char) 33, CANNOT_STAND);
        ruleFault("ask 1^" + (char) 160, CANNOT_STAND);
    }

    private void nesting() {
        doc.says("[ and not lie within one another 10 deep at most");
        String open = "[".repeat(10);
        String close = "]".repeat(10);
        ruleOf("ask 1 if " + open + "1=1" + close);
        ruleFault("ask 1 if " + open + "^[1=1" + close + "]", TOO_DEEP);
        String nots = "not ".repeat(10);
        ruleOf("ask 1 if " + nots + "1=1");
        ruleFault("ask 1 if " + nots + "^not 1=1", TOO_DEEP);
        ruleOf("ask 1 if " + "not [".repeat(5) + "1=1" + "]".repeat(5));
        ruleFault("ask 1 if " + "not [".repeat(5) + "^not 1=1" + "]".repeat(5), TOO_DEEP);
        ruleFault("ask 1 if " + "[not ".repeat(5) + "^[1=1]" + "]".repeat(5), TOO_DEEP);
        ruleOf("ask 1 if " + open + "1=1" + close + " and " + open + "1=1" + close + ";ask 1 if " + nots + "1=1");
        ruleOf("ask 1 if " + nots + "1=1 or " + nots + "1=1");
        ruleFault("ask 1 if [" + "not ".repeat(9) + "1=1 and " + "not ".repeat(9) + "^not 1=1]", TOO_DEEP);
    }

    private void valuesAndFacts() {
        doc.says("at most 60 VALUES (of SUMS) and FACTS made of a SIGN, together");
        ruleOf("ask 1" + "+1".repeat(59));
        ruleFault("ask 1" + "+1".repeat(59) + "+^1", VALUE_TOO_MANY);
        ruleOf("ask worth" + "*day".repeat(59));
        String sixty = "ask 1+1+1 if 1=1" + " or 1=1".repeat(18);
        OneDecision x = new OneDecision();
        for (int i = 0; i < 6; i++) {
            doc.due("sixty in a text with a FAULT", Texts.rule(x, sixty + ";"), fault(sixty.length() + 1, CANNOT_STAND));
            doc.due("sixty of each RULE", Texts.rule(x, sixty), i);
        }
        ruleFault(sixty + " and ^1=1", VALUE_TOO_MANY);
        ruleFault(sixty + ";ask ^1", VALUE_TOO_MANY);
        ruleOf("ask 1+1+1 if not [[1=1]]" + " or [not 1=1]".repeat(18));
        String clauses = "ask 1 if 1=1;".repeat(12);
        ruleOf(clauses.substring(0, clauses.length() - 1) + "+1".repeat(12));
        ruleFault(clauses.substring(0, clauses.length() - 1) + "+1".repeat(12) + "+^1", VALUE_TOO_MANY);
    }

    private void faultPlaces() {
        doc.says("FAULTS, the first along the text, 1 + 8 * its place");
        realmFault("realm ^10 10", NOT_AS_TOLD);
        realmFault("realm ^x 10;realm", CANNOT_STAND);
        realmFault("realm 0 0;^realm 10 x", CLAUSE_TOO_MANY);
        ruleFault("ask ^000000 if x", NOT_AS_TOLD);
        ruleFault("ask 1 if " + "[".repeat(10) + "^[x", TOO_DEEP);
        ruleFault("^", CANNOT_STAND);
        ruleFault("ask 1" + " ".repeat(394) + "^x", CANNOT_STAND);

        doc.says("0 a byte or WORD that can't stand there");
        realmFault("^7", CANNOT_STAND);
        realmFault("^;realm 0 0", CANNOT_STAND);
        realmFault("realm 0^,0", CANNOT_STAND);
        realmFault("realm 0 0 ^0", CANNOT_STAND);
        realmFault("realm 0 0;^;", CANNOT_STAND);
        realmFault("realm 0 0;question 1 0^;", CANNOT_STAND);
        realmFault("realm 0 0;^like 0 1", CANNOT_STAND);
        ruleFault("ask ^if 1=1", CANNOT_STAND);
        ruleFault("ask 1 ^or 1=1", CANNOT_STAND);
        ruleFault("ask 1 if ^and 1=1", CANNOT_STAND);
        ruleFault("ask 1 if 1=1 ^not 1=1", CANNOT_STAND);
        ruleFault("ask 1 if 1=^not 1=1", CANNOT_STAND);
        ruleFault("ask 1 if 1=1^]", CANNOT_STAND);
        ruleFault("ask 1 if [1=1^;ask 1]", CANNOT_STAND);
        ruleFault("ask ^[1]", CANNOT_STAND);
        ruleFault("ask ^-1", CANNOT_STAND);
        ruleFault("ask ^realm", CANNOT_STAND);
        ruleFault("ask ^ask", CANNOT_STAND);

        doc.says("or the end (behind the last byte)");
        realmFault("^", CANNOT_STAND);
        realmFault("   ^", CANNOT_STAND);
        realmFault("realm^", CANNOT_STAND);
        realmFault("realm 0^", CANNOT_STAND);
        realmFault("realm 0  ^", CANNOT_STAND);
        realmFault("realm 0 0;^", CANNOT_STAND);
        realmFault("realm 0 0;question 1 0^", CANNOT_STAND);
        ruleFault("ask^", CANNOT_STAND);
        ruleFault("ask 1+  ^", CANNOT_STAND);
        ruleFault("ask 1 if^", CANNOT_STAND);
        ruleFault("ask 1 if 1^", CANNOT_STAND);
        ruleFault("ask 1 if 1<^", CANNOT_STAND);
        ruleFault("ask 1 if not^", CANNOT_STAND);
        ruleFault("ask 1 if [1=1^", CANNOT_STAND);
        ruleFault("ask 1 if 1=1 and^", CANNOT_STAND);
        ruleFault("ask 1;^", CANNOT_STAND);
    }

    private void faultKinds() {
        doc.says("1 a NUMBER of more digits, or not as told");
        ruleFault("ask 1+^123456", NOT_AS_TOLD);
        ruleFault("ask 1 if 1=^1234567890123456789012", NOT_AS_TOLD);
        realmFault("realm 0 ^000001", NOT_AS_TOLD);
        realmFault("realm 0 0;wakes ^99999", NOT_AS_TOLD);
        realmFault("realm 0 0;question 1 5 ^4", NOT_AS_TOLD);

        doc.says("(of alike the second QUESTION, if it is the first)");
        realmFault("realm 0 0;question 1 0 0;alike 0 ^0", NOT_AS_TOLD);

        doc.says("2 too deep (at the sign that opens, or the word not)");
        ruleFault("ask 1 if " + "[".repeat(10) + "  ^[1=1", TOO_DEEP);
        ruleFault("ask 1 if " + "[".repeat(10) + "  ^not 1=1", TOO_DEEP);

        doc.says("3 one VALUE or FACT too many (at its first byte; of a FACT at its SIGN)");
        String sixty = "ask 1" + "+1".repeat(59);
        ruleFault(sixty + "+  ^12345", VALUE_TOO_MANY);
        ruleFault(sixty + "+  ^worth", VALUE_TOO_MANY);
        String fact = "ask 1" + "+1".repeat(58) + " if 1 ";
        ruleFault(fact + "^< 1", VALUE_TOO_MANY);
        ruleFault(fact + "^>= 1", VALUE_TOO_MANY);
        ruleFault("ask 1" + "+1".repeat(57) + " if 1 >= ^1", VALUE_TOO_MANY);
        ruleFault(sixty + " if ^1=1", VALUE_TOO_MANY);

        doc.says("4 one CLAUSE too many, a second realm, another CLAUSE ahead of it, a ninth QUESTION (at its first byte)");
        realmFault("realm 0 0" + ";wakes 0".repeat(39) + ";  ^wakes", CLAUSE_TOO_MANY);
        ruleFault("ask 1;".repeat(12) + "  ^ask", CLAUSE_TOO_MANY);
        realmFault("realm 0 0;  ^realm", CLAUSE_TOO_MANY);
        realmFault("  ^question", CLAUSE_TOO_MANY);
        realmFault("realm 0 0" + ";question 0 0 0".repeat(8) + ";  ^question", CLAUSE_TOO_MANY);
    }

    private void faultsOfOnePlace() {
        doc.says("Of one place the least.");
        String sixty = "ask 1" + "+1".repeat(59);
        ruleFault(sixty + "+^123456", NOT_AS_TOLD);
        ruleFault(sixty + "+^if", CANNOT_STAND);
        ruleFault("ask 1" + "+1".repeat(58) + " if 1+^", CANNOT_STAND);
        ruleFault("ask 1" + "+1".repeat(58) + " if 1^]", CANNOT_STAND);
        ruleFault("ask 1 if " + "[".repeat(10) + "^nots 1=1", CANNOT_STAND);
        ruleFault("ask 1;".repeat(12) + "^asks 1", CANNOT_STAND);
        ruleFault("ask 1;".repeat(12) + "^", CANNOT_STAND);
        realmFault("^ask 1", CANNOT_STAND);
        realmFault("realm 0 0" + ";wakes 0".repeat(39) + ";^worth", CANNOT_STAND);
        realmFault("realm 0 0" + ";wakes 0".repeat(39) + ";^", CANNOT_STAND);
        realmFault("realm 0 0" + ";question 0 0 0".repeat(8) + ";^questions", CANNOT_STAND);
        realmFault("realm 0 0;alike ^000000 0", NOT_AS_TOLD);
    }

    private void newObject() {
        doc.says("No REALM, no RULES, none IN FORCE.");
        OneDecision x = new OneDecision();
        for (int what = 0; what <= 16; what++) {
            doc.due("count(" + what + ")", x.count(what), what == 4 ? -1 : 0);
        }
        doc.due("day()", x.day(), -2);
        doc.due("force(0)", x.force(0), -2);
        doc.due("back(0)", x.back(0), -1);
        doc.due("undo()", x.undo(), -2);
    }

    private void feed() {
        doc.says("Twenty bytes come behind the TAPE, of each number the highest first: how many it has");
        OneDecision x = new OneDecision();
        doc.due("feed", x.feed(0x61736b20, 0x64617920, 0x69662077, 0x6f727468, 0x3d352020), 20);
        doc.due("feed behind", x.feed(0x20202020, 0x3b61736b, 0x20312020, 0x20202020, 0x20202020), 40);
        doc.due("rule()", x.rule(), 0);
        for (int sign = 0; sign < 256; sign++) {
            doc.due("byte " + sign + " ahead of a RULE", Texts.rule(new OneDecision(), (char) sign + "ask 1"),
                    sign == ' ' ? 0 : fault(0, CANNOT_STAND));
        }

        doc.says("NONE, and none comes, if it would have more than 400.");
        OneDecision full = new OneDecision();
        Texts.feed(full, "ask 1" + " ".repeat(376));
        doc.due("feed to 401", full.feed(-1, -1, -1, -1, -1), -1);
        doc.due("bytes", full.count(16), 381);
        full.end(380);
        doc.due("feed to 400", full.feed(0x20202020, 0x20202020, 0x20202020, 0x20202020, 0x20202020), 400);
        doc.due("feed to 420", full.feed(-1, -1, -1, -1, -1), -1);
        doc.due("bytes", full.count(16), 400);
        doc.due("as they were", full.rule(), 0);
    }

    private void end() {
        doc.says("The TAPE has its first n bytes alone: n; NONE, and nothing happens, if it has not so many, or n is below 0.");
        OneDecision x = new OneDecision();
        doc.due("end(0) of none", x.end(0), 0);
        doc.due("end(1) of none", x.end(1), -1);
        Texts.feed(x, "ask 1;ask 12345     ");
        for (int n : Sentences.outside(0, 20)) {
            doc.due("end(" + n + ")", x.end(n), -1);
            doc.due("bytes", x.count(16), 20);
        }
        doc.due("end(20)", x.end(20), 20);
        doc.due("end(6)", x.end(6), 6);
        doc.due("end(7)", x.end(7), -1);
        doc.due("its first alone", x.rule(), fault(6, CANNOT_STAND));
        Texts.feed(x, "ask worths");
        x.end(9);
        doc.due("a WORD is cut", x.rule(), 0);
        Texts.feed(x, "ask 123456");
        x.end(9);
        doc.due("a NUMBER is cut", x.rule(), 1);
        Texts.feed(x, "ask 1");
        doc.due("end(0)", x.end(0), 0);
        doc.due("bytes", x.count(16), 0);
        doc.due("empty", x.rule(), fault(0, CANNOT_STAND));
    }

    private OneDecision inPlay() {
        OneDecision x = doc.in("realm 9 5;question 5 0 0;question 6 0 0;question 7 3 9;question 8 0 9;alike 0 2;wakes 1");
        doc.byRule(x, "ask worth if left=0");
        x.day();
        x.day();
        x.day();
        x.tie(1, 3);
        x.grow(2, 5);
        x.egg();
        x.note(5, 1);
        x.seed(77);
        return x;
    }

    private void realm() {
        doc.says("in place of the one there was (no NOTES, nothing to be UNDONE; the RULE IN FORCE and x stay): how many QUESTIONS");
        OneDecision x = inPlay();
        doc.due("none", Texts.realm(x, "realm 1 2"), 0);
        int[] wants = {1, 2, 0, 1, 0, 0, 0, 0, 0, 0, 0, 0, 0, 0, 0, 77, 0};
        for (int what = 0; what < wants.length; what++) {
            doc.due("count(" + what + ")", x.count(what), wants[what]);
        }
        doc.due("undo()", x.undo(), -2);
        doc.due("question(0, 0)", x.question(0, 0), -1);
        doc.due("eight", Texts.realm(x, "realm 1 2" + ";question 1 0 0".repeat(8)), 8);

        doc.says("-2 - its FAULT, and all stays.");
        OneDecision faulty = inPlay();
        int[] before = Sentences.sight(faulty);
        doc.due("a fault at the end", Texts.realm(faulty, "realm 1 2;question 1 0 0;wakes 5;"), fault(33, CANNOT_STAND));
        faulty.end(0);
        doc.stays(faulty, before);
    }

    private void rule() {
        doc.says("The TAPE, which is empty then, is a RULE: its number; -2 - its FAULT");
        OneDecision x = new OneDecision();
        doc.due("a fault", Texts.rule(x, "ask 1;ask"), fault(9, CANNOT_STAND));
        doc.due("bytes", x.count(16), 0);
        doc.due("RULES", x.count(3), 0);
        doc.due("the first", Texts.rule(x, "ask 1"), 0);
        doc.due("bytes", x.count(16), 0);
        doc.due("a fault", Texts.rule(x, "ask"), fault(3, CANNOT_STAND));
        doc.due("RULES", x.count(3), 1);
        doc.due("the second", Texts.rule(x, "ask 2"), 1);
        doc.due("none IN FORCE", x.count(4), -1);

        doc.says("NONE, and nothing happens: there are 6.");
        OneDecision six = inPlay();
        for (int i = 1; i < 6; i++) {
            Texts.rule(six, "ask " + i);
        }
        Texts.feed(six, "ask 6");
        int[] before = Sentences.sight(six);
        doc.due("rule()", six.rule(), -1);
        doc.stays(six, before);
        six.end(4);
        doc.due("rule() of a FAULT", six.rule(), -1);
        doc.due("bytes", six.count(16), 4);
        six.end(0);
        doc.due("rule() of nothing", six.rule(), -1);
    }

    private void force() {
        doc.says("A RULE is IN FORCE (NONE: none): which was; -2, and nothing happens, if there is none such.");
        OneDecision x = new OneDecision();
        doc.due("force(NONE)", x.force(-1), -1);
        doc.due("force(0)", x.force(0), -2);
        for (int i = 0; i < 6; i++) {
            Texts.rule(x, "ask 1");
            doc.due("force(" + (i + 1) + ")", x.force(i + 1), -2);
            doc.due("force(" + i + ")", x.force(i), i - 1);
        }
        int[] before = Sentences.sight(x);
        for (int rule : Sentences.outside(-1, 5)) {
            doc.due("force(" + rule + ")", x.force(rule), -2);
        }
        doc.stays(x, before);
        doc.due("force(0)", x.force(0), 5);
        doc.due("force(NONE)", x.force(-1), 0);
        doc.due("IN FORCE", x.count(4), -1);
    }
}
