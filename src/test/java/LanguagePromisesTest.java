/** Promises 1 to 6: a new object, the tape, realms, rules and the rule in force. */
public final class LanguagePromisesTest {
    private static final Check CHECK = new Check();

    private LanguagePromisesTest() {
    }

    public static void main(String[] args) {
        newObject();
        feed();
        end();
        realm();
        realmFaults();
        realmLimits();
        rule();
        ruleFaults();
        ruleLimits();
        tests();
        sums();
        words();
        clauses();
        force();
        CHECK.close();
    }

    private static void due(String what, long got, long want) {
        CHECK.due(what, got, want);
    }

    private static void newObject() {
        OneDecision x = new OneDecision();
        for (int what = 0; what <= 16; what++) {
            due("new count(" + what + ")", x.count(what), what == 4 ? -1 : 0);
        }
        due("new count(17)", x.count(17), -1);
        due("new count(-1)", x.count(-1), -1);
        due("new question(0, 0)", x.question(0, 0), -1);
        due("new day()", x.day(), -2);
        due("new undo()", x.undo(), -2);
        due("new back(0)", x.back(0), -1);
        due("NONE", OneDecision.NONE, -1);
    }

    private static void feed() {
        OneDecision x = new OneDecision();
        for (int i = 1; i <= 20; i++) {
            due("feed " + i, x.feed(0, 0, 0, 0, 0), 20 * i);
        }
        due("feed beyond", x.feed(0, 0, 0, 0, 0), -1);
        due("bytes then", x.count(16), 400);
        due("end(381)", x.end(381), 381);
        due("feed beyond by one", x.feed(0, 0, 0, 0, 0), -1);
        due("end(380)", x.end(380), 380);
        due("feed to the full", x.feed(0, 0, 0, 0, 0), 400);
        x.end(0);
        // "realm 0 0 ; question" and " 7 0 0": the highest byte of each number comes first
        due("feed a text", x.feed(0x7265616c, 0x6d203020, 0x30203b20, 0x71756573, 0x74696f6e), 20);
        due("feed its rest", x.feed(0x20372030, 0x20300000, -1, -1, -1), 40);
        x.end(26);
        due("realm fed", x.realm(), 1);
        due("its worth", x.question(0, 0), 7);
    }

    private static void end() {
        OneDecision x = new OneDecision();
        due("end(0) of none", x.end(0), 0);
        due("end(1) of none", x.end(1), -1);
        x.feed(0, 0, 0, 0, 0);
        due("end(-1)", x.end(-1), -1);
        due("end(21)", x.end(21), -1);
        due("bytes", x.count(16), 20);
        due("end(20)", x.end(20), 20);
        due("end(5)", x.end(5), 5);
        due("bytes then", x.count(16), 5);
        due("end(6)", x.end(6), -1);
    }

    private static void realm() {
        OneDecision x = new OneDecision();
        due("a realm", Texts.realm(x, " realm9 8 ;question 99 60 60;question0 0 60; alike 1 0;alike 0 1;wakes 60"), 2);
        due("tape", x.count(16), 0);
        due("KEEPS", x.count(0), 9);
        due("HALF", x.count(1), 8);
        due("QUESTIONS", x.count(2), 2);
        due("worth 0", x.question(0, 0), 99);
        due("from 0", x.question(0, 1), 60);
        due("last 1", x.question(1, 2), 60);
        due("alike 0", x.question(0, 5), 2);
        due("alike 1", x.question(1, 5), 1);
        due("note", x.note(0, 1), 1);
        due("egg", x.egg(), 0);
        x.seed(5);
        due("a fault", Texts.realm(x, "realm 0 0 0"), -2 - fault(10, 0));
        due("tape is empty", x.count(16), 0);
        due("KEEPS stay", x.count(0), 9);
        due("NOTES stay", x.count(13), 1);
        due("ACTS stay", x.count(14), 1);
        due("another", Texts.realm(x, "realm 1 2"), 0);
        due("KEEPS then", x.count(0), 1);
        due("QUESTIONS then", x.count(2), 0);
        due("no NOTES", x.count(13), 0);
        due("nothing to be UNDONE", x.count(14), 0);
        due("no egg", x.count(11), 0);
        due("x stays", x.count(15), 5);
        due("day without QUESTIONS", x.day(), -1);
        due("kept", x.count(7), 1);
    }

    private static int fault(int place, int kind) {
        return 1 + 8 * place + kind;
    }

    private static void realmFault(String text, int place, int kind) {
        due("realm \"" + text + "\"", Texts.realm(new OneDecision(), text), -2 - fault(place, kind));
    }

    private static void realmFaults() {
        realmFault("", 0, 0);
        realmFault("   ", 3, 0);
        realmFault(";", 0, 0);
        realmFault("Realm 0 0", 0, 0);
        realmFault("realM 0 0", 0, 0);
        realmFault("realms 0 0", 0, 0);
        realmFault("realma 0 0", 0, 0);
        realmFault("realmz 0 0", 0, 0);
        realmFault("ask 1", 0, 0);
        realmFault("worth 0 0", 0, 0);
        realmFault("7", 0, 0);
        realmFault("realm", 5, 0);
        realmFault("realm ", 6, 0);
        realmFault("realm 0", 7, 0);
        realmFault("realm 00", 8, 0);
        realmFault("realm 0 0 0", 10, 0);
        realmFault("realm 0 x", 8, 0);
        realmFault("realm 0 -1", 8, 0);
        realmFault("realm 0 0;", 10, 0);
        realmFault("realm 0 0; ", 11, 0);
        realmFault("realm 0 0;;", 10, 0);
        realmFault("realm 0 0 realm 0 0", 10, 0);
        realmFault("realm 0 0\t", 9, 0);
        realmFault("realm 0 0\u00fb", 9, 0);
        realmFault("realm 10 0", 6, 1);
        realmFault("realm 0 10", 8, 1);
        realmFault("realm 000000 0", 6, 1);
        realmFault("realm 0 0;question 100 0 0", 19, 1);
        realmFault("realm 0 0;question 99 61 0", 22, 1);
        realmFault("realm 0 0;question 99 0 61", 24, 1);
        realmFault("realm 0 0;question 99 5 4", 24, 1);
        realmFault("realm 0 0;wakes 61", 16, 1);
        realmFault("realm 0 0;wakes", 15, 0);
        realmFault("realm 0 0;alike 0 1", 16, 1);
        realmFault("realm 0 0;question 0 0 0;alike 1 0", 31, 1);
        realmFault("realm 0 0;question 0 0 0;alike 0 0", 33, 1);
        realmFault("realm 0 0;question 0 0 0;alike 0 1;question 0 0 0", 33, 1);
        realmFault("question 0 0 0;realm 0 0", 0, 4);
        realmFault(" wakes 99", 1, 4);
        realmFault("realm 0 0;realm 0 0", 10, 4);
        realmFault("realm 0 0; realm x", 11, 4);
        due("leading zeros", Texts.realm(new OneDecision(), "realm 00009 00000"), 0);
    }

    private static void realmLimits() {
        String eight = "realm 0 0" + ";question 1 0 0".repeat(8);
        due("eight QUESTIONS", Texts.realm(new OneDecision(), eight), 8);
        realmFault(eight + ";question 1 0 0", eight.length() + 1, 4);
        realmFault(eight + "; questions", eight.length() + 2, 0);
        String forty = "realm 0 0" + ";wakes 0".repeat(39);
        due("forty CLAUSES", Texts.realm(new OneDecision(), forty), 0);
        realmFault(forty + ";wakes 0", forty.length() + 1, 4);
        realmFault(forty + ";wakes", forty.length() + 1, 4);
        realmFault(forty + ";", forty.length() + 1, 0);
        realmFault(forty + ";wake 0", forty.length() + 1, 0);
        String full = "realm 0 0" + " ".repeat(391);
        due("four hundred bytes", Texts.realm(new OneDecision(), full), 0);
        realmFault(full.substring(0, 399) + ";", 400, 0);
    }

    private static void rule() {
        OneDecision x = new OneDecision();
        due("a fault", Texts.rule(x, "ask 1 if"), -2 - fault(8, 0));
        due("tape is empty", x.count(16), 0);
        due("no RULE", x.count(3), 0);
        for (int i = 0; i < 6; i++) {
            due("rule " + i, Texts.rule(x, "ask " + i), i);
            due("RULES", x.count(3), i + 1);
            due("tape", x.count(16), 0);
        }
        due("a seventh", Texts.rule(x, "ask 6"), -1);
        due("tape stays", x.count(16), 5);
        due("RULES stay", x.count(3), 6);
        due("none IN FORCE", x.count(4), -1);
        x.end(0);
        due("a faulty seventh", Texts.rule(x, "ask"), -1);
        due("tape stays", x.count(16), 3);
    }

    private static void ruleFault(String text, int place, int kind) {
        due("rule \"" + text + "\"", Texts.rule(new OneDecision(), text), -2 - fault(place, kind));
    }

    private static void ruleFaults() {
        ruleFault("", 0, 0);
        ruleFault("ask", 3, 0);
        ruleFault("ask ", 4, 0);
        ruleFault("asks 1", 0, 0);
        ruleFault("question 1", 0, 0);
        ruleFault("ask if", 4, 0);
        ruleFault("ask not", 4, 0);
        ruleFault("ask realm", 4, 0);
        ruleFault("ask -1", 4, 0);
        ruleFault("ask 1+", 6, 0);
        ruleFault("ask 1+*2", 6, 0);
        ruleFault("ask 1 2", 6, 0);
        ruleFault("ask 1worth", 5, 0);
        ruleFault("ask worth1", 9, 0);
        ruleFault("ask [1=1]", 4, 0);
        ruleFault("ask 1;", 6, 0);
        ruleFault("ask 1 iff 1=1", 6, 0);
        ruleFault("ask 1 if 1", 10, 0);
        ruleFault("ask 1 if 1 and 1=1", 11, 0);
        ruleFault("ask 1 if 1=", 11, 0);
        ruleFault("ask 1 if 1==1", 11, 0);
        ruleFault("ask 1 if 1< =1", 12, 0);
        ruleFault("ask 1 if 1=<1", 11, 0);
        ruleFault("ask 1 if 1=1=1", 12, 0);
        ruleFault("ask 1 if 1=1 and", 16, 0);
        ruleFault("ask 1 if 1=1 or;", 15, 0);
        ruleFault("ask 1 if 1=1 if 1=1", 13, 0);
        ruleFault("ask 1 if [1=1", 13, 0);
        ruleFault("ask 1 if 1=1]", 12, 0);
        ruleFault("ask 1 if [1]=1", 11, 0);
        ruleFault("ask 1 if []", 10, 0);
        ruleFault("ask 1 if notleft=1", 9, 0);
        ruleFault("ask 1 if not", 12, 0);
        ruleFault("ask 1 if 1!1", 10, 0);
        ruleFault("ask 123456", 4, 1);
        ruleFault("ask 1 if 000000=1", 9, 1);
        ruleFault("ask 1 123456", 6, 0);
    }

    private static void ruleLimits() {
        String deep = "ask 1 if " + "[".repeat(5) + "not ".repeat(5);
        due("ten deep", Texts.rule(new OneDecision(), deep + "1=1" + "]".repeat(5)), 0);
        ruleFault(deep + "not 1=1", deep.length(), 2);
        ruleFault(deep + " [1=1", deep.length() + 1, 2);
        ruleFault(deep + "nots 1=1", deep.length(), 0);
        String beside = "ask 1 if " + "[1=1] and ".repeat(11) + "not 1=1";
        due("beside one another", Texts.rule(new OneDecision(), beside), 0);

        String sixty = "ask 1" + "+1".repeat(59);
        due("sixty VALUES", Texts.rule(new OneDecision(), sixty), 0);
        ruleFault(sixty + "+1", sixty.length() + 1, 3);
        ruleFault(sixty + "+worth", sixty.length() + 1, 3);
        ruleFault(sixty + "+123456", sixty.length() + 1, 1);
        ruleFault(sixty + "+and", sixty.length() + 1, 0);
        ruleFault(sixty + ";ask 1", sixty.length() + 5, 3);
        String facts = "ask 1+1+1 if 1=1" + " or 1=1".repeat(18);
        due("sixty VALUES and FACTS", Texts.rule(new OneDecision(), facts), 0);
        ruleFault(facts + " or 1=1", facts.length() + 4, 3);
        String atSign = "ask 1+1 if 1=1" + " or 1=1".repeat(18);
        ruleFault(atSign + " or 1<=1", atSign.length() + 5, 3);
        ruleFault(atSign + " or 1+1", atSign.length() + 6, 3);

        String twelve = "ask 1" + ";ask 1".repeat(11);
        due("twelve CLAUSES", Texts.rule(new OneDecision(), twelve), 0);
        ruleFault(twelve + ";ask 1", twelve.length() + 1, 4);
        ruleFault(twelve + ";ask", twelve.length() + 1, 4);
        ruleFault(twelve + ";", twelve.length() + 1, 0);
        ruleFault(twelve + ";if", twelve.length() + 1, 0);
    }

    /** Whether a rule with this test asks the one question that is open. */
    private static boolean holds(String test) {
        OneDecision x = new OneDecision();
        Texts.realm(x, "realm 1 0;question 5 0 3");
        due("rule of test \"" + test + "\"", Texts.rule(x, "ask 1 if " + test), 0);
        x.force(0);
        return x.day() == 0;
    }

    private static void dueTest(String test, boolean want) {
        due("test \"" + test + "\"", holds(test) ? 1 : 0, want ? 1 : 0);
    }

    private static void tests() {
        dueTest("1<2", true);
        dueTest("2<2", false);
        dueTest("2<=2", true);
        dueTest("3<=2", false);
        dueTest("2=2", true);
        dueTest("2=3", false);
        dueTest("2>=2", true);
        dueTest("1>=2", false);
        dueTest("3>2", true);
        dueTest("2>2", false);
        dueTest("not 1=2", true);
        dueTest("not not 1=2", false);
        dueTest("1=1 or 1=1 and 1=2", true);
        dueTest("[1=1 or 1=1] and 1=2", false);
        dueTest("1=2 and 1=1 or 1=1", true);
        dueTest("1=2 and [1=1 or 1=1]", false);
        dueTest("1=2 or 1=2 or 1=1", true);
        dueTest("not 1=1 or 1=1", true);
        dueTest("not [1=1 or 1=1]", false);
        dueTest("1=1and 2=2or 1=2", true);
    }

    private static void sums() {
        dueTest("2+3*4=14", true);
        dueTest("2*3+4=10", true);
        dueTest("10-4-3=3", true);
        dueTest("10-4+3=9", true);
        dueTest("20-2*3-4*2=6", true);
        dueTest("100/7/2=7", true);
        dueTest("100/7*2=28", true);
        dueTest("100%7*2=4", true);
        dueTest("7/0=0", true);
        dueTest("7%0=0", true);
        dueTest("0-7/2=0-3", true);
        dueTest("3-5<0", true);
        long wrapped = 99999L * 99999 * 99999 * 50000;
        due("a product goes round below 0", wrapped < 0 ? 1 : 0, 1);
        dueTest("99999*99999*99999*50000<0", true);
        dueTest("99999*99999*99999*50000%10+" + -(wrapped % 10) + "=0", true);
        dueTest("99999*99999*99999*50000/99999/99999/99999+" + -(wrapped / 99999 / 99999 / 99999) + "=0", true);
    }

    private static void word(String word, int want) {
        OneDecision x = new OneDecision();
        Texts.realm(x, "realm 3 5;question 1 0 0;question 2 0 20;question 7 1 9;question 9 2 8;question 5 3 60;"
                + "alike 2 3;alike 2 1;alike 2 0;alike 2 4;wakes 1");
        due("rule of " + word, Texts.rule(x, "ask 0 if day<2;ask 1 if question=2 and " + word + "=" + want), 0);
        x.force(0);
        due("day 0", x.day(), -1);
        due("day 1", x.day(), -1);
        due(word, x.day(), 2);
    }

    private static void words() {
        word("question", 2);
        word("worth", 7);
        word("from", 1);
        word("last", 9);
        word("left", 7);
        word("bundle", 2);
        word("brings", 7 + 4 + 1);
        word("open", 3);
        word("kept", 1);
        word("gained", 0);
        word("lost", 1);
        word("wasted", 1);
        word("day", 2);
    }

    private static void clauses() {
        OneDecision x = new OneDecision();
        Texts.realm(x, "realm 9 0;question 5 0 9;question 6 0 9;question 7 0 9;question 8 0 9");
        Texts.rule(x, "ask 3 if question=1;ask 3 if question=2;ask 9 if question=3 and day>0;ask 1 if question=3");
        Texts.rule(x, "ask 0;ask 7");
        Texts.rule(x, "ask question-2");
        Texts.rule(x, "ask 0-1");
        due("no first CLAUSE that is above 0", x.force(1), -1);
        due("none is put", x.day(), -1);
        x.force(3);
        due("none below 0", x.day(), -1);
        x.undo();
        x.undo();
        x.force(0);
        due("of several the least", x.day(), 1);
        due("the greatest", x.day(), 3);
        due("the next", x.day(), 2);
        due("without a CLAUSE none", x.day(), -1);
        x.undo();
        x.undo();
        x.undo();
        x.force(2);
        due("above 0", x.day(), 3);
        due("0 is not above 0", x.day(), -1);
        due("kept", x.count(7), 1);
    }

    private static void force() {
        OneDecision x = new OneDecision();
        due("force(NONE)", x.force(-1), -1);
        due("force(0) without", x.force(0), -2);
        Texts.rule(x, "ask 1");
        Texts.rule(x, "ask 2");
        due("force(1)", x.force(1), -1);
        due("force(2)", x.force(2), -2);
        due("force(-2)", x.force(-2), -2);
        due("IN FORCE", x.count(4), 1);
        due("force(0)", x.force(0), 1);
        Texts.realm(x, "realm 0 0");
        due("stays with a REALM", x.count(4), 0);
        due("force(NONE) then", x.force(-1), 0);
        due("none IN FORCE", x.count(4), -1);
    }
}
