/** Promises 7 to 13 and 29 to 31: questions, acts, what can be undone, counts and images. */
public final class ActPromisesTest {
    private static final Check CHECK = new Check();
    private static final String REALM = "realm 2 5;question 10 0 1;question 7 0 3;question 20 2 4;question 4 0 0;"
            + "alike 0 1;wakes 1";

    private ActPromisesTest() {
    }

    public static void main(String[] args) {
        question();
        dayWithoutRule();
        dayByRule();
        dayKeeps();
        use();
        egg();
        tie();
        grow();
        undo();
        undoTwenty();
        count();
        image();
        imageOfNothing();
        CHECK.close();
    }

    private static void due(String what, long got, long want) {
        CHECK.due(what, got, want);
    }

    private static OneDecision in(String realm) {
        OneDecision x = new OneDecision();
        if (Texts.realm(x, realm) < 0) {
            due("realm " + realm, -1, 0);
        }
        return x;
    }

    private static void question() {
        OneDecision x = in(REALM);
        int[][] wants = {{10, 0, 1, 0, 1, 2, 13}, {7, 0, 3, 0, 1, 1, 12}, {20, 2, 4, 0, 0, 0, 0}, {4, 0, 0, 0, 1, 0, 4}};
        for (int q = 0; q < 4; q++) {
            for (int what = 0; what < 7; what++) {
                due("question(" + q + ", " + what + ")", x.question(q, what), wants[q][what]);
            }
        }
        due("question(4, 0)", x.question(4, 0), -1);
        due("question(-1, 0)", x.question(-1, 0), -1);
        due("question(0, 7)", x.question(0, 7), -1);
        due("question(0, -1)", x.question(0, -1), -1);
        due("question(MAX, 0)", x.question(Integer.MAX_VALUE, 0), -1);
        x.day();
        x.day();
        due("answered", x.question(3, 3), 1);
        due("answered is not OPEN", x.question(3, 4), 0);
        due("answered brings nothing", x.question(3, 6), 0);
        due("lost", x.question(0, 3), 3);
        due("lost is not OPEN", x.question(0, 4), 0);
        due("alike stays", x.question(0, 5), 2);
        due("none with a lost one", x.question(1, 6), 7);
        due("from its day on OPEN", x.question(2, 4), 1);
    }

    private static void dayWithoutRule() {
        OneDecision x = in(REALM);
        due("day 0", x.day(), 3);
        due("gained", x.count(8), 4);
        due("day 1 is WASTED", x.day(), -1);
        due("wasted", x.count(10), 1);
        due("not kept", x.count(7), 0);
        due("lost", x.count(9), 10);
        due("day 2: least LAST", x.day(), 1);
        due("gained", x.count(8), 11);
        due("day 3", x.day(), 2);
        due("gained", x.count(8), 31);
        due("day 4", x.day(), -1);
        due("DAY", x.count(5), 5);
        due("kept", x.count(7), 1);

        OneDecision several = in("realm 0 0;question 1 0 5;question 2 0 4;question 3 0 4");
        due("of several the least", several.day(), 1);
        OneDecision bundle = in("realm 0 7;question 9 0 0;question 9 0 0;question 9 0 0;question 9 1 9;"
                + "alike 0 1;alike 1 2;alike 0 3");
        due("a bundle", bundle.day(), 0);
        due("its WORTH downwards", bundle.count(8), 9 + 6);
        due("in the bundle", bundle.question(1, 3), 2);
        due("alike to that alone", bundle.question(2, 3), 3);
        due("alike and not OPEN", bundle.question(3, 3), 0);
        due("lost on its LAST", bundle.count(9), 9);
    }

    private static void dayByRule() {
        OneDecision x = in(REALM);
        Texts.rule(x, "ask brings if left>0;ask 1 if day>1");
        x.force(0);
        due("day 0", x.day(), 0);
        due("gained", x.count(8), 13);
        due("lost", x.count(9), 4);
        due("day 1", x.day(), -1);
        due("day 2", x.day(), 2);
        x.force(-1);
        due("none left", x.day(), -1);
    }

    private static void dayKeeps() {
        OneDecision x = in("realm 2 0;wakes 1");
        int[] kept = {1, 1, 2, 2};
        for (int i = 0; i < kept.length; i++) {
            due("day " + i, x.day(), -1);
            due("kept " + i, x.count(7), kept[i]);
        }
        due("wasted", x.count(10), 1);
        OneDecision none = in("realm 0 0");
        none.day();
        due("KEEPS 0", none.count(7), 0);
        OneDecision late = in("realm 0 0;question 5 0 60;question 6 60 60;wakes 60");
        Texts.rule(late, "ask 0");
        late.force(0);
        for (int i = 0; i < 60; i++) {
            late.day();
        }
        due("both OPEN on DAY 60", late.count(6), 3);
        due("wakes on DAY 60", late.count(12), 1);
        due("day 60", late.day(), -1);
        due("both lost", late.count(9), 11);
        due("wakes on DAY 61", late.count(12), 0);
        due("wasted", late.count(10), 1);
        for (int i = 0; i < 200; i++) {
            late.day();
        }
        due("wakes no more", late.count(10), 1);
    }

    private static void use() {
        OneDecision x = in("realm 1 5;question 7 2 9;question 9 0 0;question 9 2 8;alike 0 2");
        due("nothing kept", x.use(1), -1);
        due("day 0", x.day(), 1);
        due("day 1", x.day(), -1);
        Texts.rule(x, "ask 0");
        x.force(0);
        due("answered already", x.use(1), -1);
        due("no QUESTION", x.use(3), -1);
        due("no QUESTION", x.use(-1), -1);
        due("acts", x.count(14), 2);
        due("use(0)", x.use(0), 7 + 4);
        due("kept", x.count(7), 0);
        due("gained", x.count(8), 9 + 11);
        due("answered", x.question(0, 3), 1);
        due("in the bundle", x.question(2, 3), 2);
        due("DAY stays", x.count(5), 2);
        due("an ACT", x.count(14), 3);
        due("nothing kept", x.use(2), -1);
        due("undo()", x.undo(), 2);
        due("kept again", x.count(7), 1);
        due("gained again", x.count(8), 9);
        due("OPEN again", x.count(6), 5);

        OneDecision early = in("realm 1 5;question 7 2 9");
        early.day();
        due("not OPEN yet", early.use(0), -1);
    }

    private static void egg() {
        OneDecision x = in("realm 1 0;question 7 0 1;wakes 1");
        due("egg()", x.egg(), 0);
        due("had one", x.count(11), 1);
        due("egg() again", x.egg(), -1);
        due("one ACT", x.count(14), 1);
        due("a WASTED day", x.day(), -1);
        due("wasted", x.count(10), 1);
        due("not kept", x.count(7), 0);
        due("none on the next", x.count(11), 0);
        due("egg() on DAY 1", x.egg(), 1);
        due("day 1", x.day(), -1);
        due("WASTED once", x.count(10), 2);
        due("lost", x.count(9), 7);
        due("without a REALM", new OneDecision().egg(), -1);
    }

    private static void tie() {
        OneDecision x = in("realm 0 5;question 8 0 3;question 9 0 3;question 6 0 0");
        due("tie(0, 2)", x.tie(0, 2), 1);
        due("tie(1, 0)", x.tie(1, 0), 1);
        due("alike to 0", x.question(0, 5), 6);
        due("alike to 1", x.question(1, 5), 1);
        due("brings", x.question(0, 6), 8 + 4 + 3);
        due("tie(0, 1)", x.tie(0, 1), 0);
        due("alike to 0", x.question(0, 5), 4);
        due("alike to 1", x.question(1, 5), 0);
        due("tie(0, 0)", x.tie(0, 0), -1);
        due("tie(0, 3)", x.tie(0, 3), -1);
        due("tie(-1, 0)", x.tie(-1, 0), -1);
        due("acts", x.count(14), 3);
        due("day 0", x.day(), 2);
        due("in the bundle", x.question(0, 3), 2);
        due("tie of answered ones", x.tie(0, 2), 0);
        due("undo()", x.undo(), 4);
        due("alike again", x.question(0, 5), 4);
    }

    private static void grow() {
        OneDecision x = in("realm 0 5;question 99 0 0;question 9 5 5;question 1 0 0;question 1 0 0;alike 0 2");
        due("grow(1, 1)", x.grow(1, 1), 10);
        due("grow(1, 0)", x.grow(1, 0), -1);
        due("grow(1, 100)", x.grow(1, 100), -1);
        due("grow(1, -5)", x.grow(1, -5), -1);
        due("grow(4, 1)", x.grow(4, 1), -1);
        due("grow(-1, 1)", x.grow(-1, 1), -1);
        due("acts", x.count(14), 1);
        for (int i = 1; i <= 9; i++) {
            due("grow(0, 99)", x.grow(0, 99), 99 + 99 * i);
        }
        due("999 at most", x.grow(0, 99), 999);
        due("999 at most", x.grow(0, 1), 999);
        due("acts", x.count(14), 12);
        due("brings", x.question(2, 6), 1 + 499);
        due("day 0", x.day(), 0);
        due("gained", x.count(8), 999);
        due("answered", x.grow(0, 1), -1);
        due("answered in a bundle", x.grow(2, 1), -1);
        due("lost", x.grow(3, 1), -1);
        due("not yet there", x.grow(1, 1), 11);
        x.undo();
        due("undone", x.question(1, 0), 10);
    }

    private static void undo() {
        OneDecision x = in(REALM);
        due("undo() of none", x.undo(), -2);
        x.egg();
        x.day();
        x.day();
        x.day();
        due("undo() of a DAY", x.undo(), 3);
        due("DAY", x.count(5), 2);
        due("gained", x.count(8), 0);
        due("lost", x.count(9), 14);
        due("wasted", x.count(10), 2);
        due("OPEN again", x.question(1, 3), 0);
        due("undo()", x.undo(), 2);
        due("lost again", x.question(0, 3), 0);
        due("undo()", x.undo(), 1);
        due("egg again", x.count(11), 1);
        due("undo()", x.undo(), 0);
        due("no egg", x.count(11), 0);
        due("undo()", x.undo(), -2);
        x.day();
        x.seed(9);
        x.note(0, 3);
        Texts.rule(x, "ask 1");
        x.force(0);
        x.undo();
        due("x stays", x.count(15), 9);
        due("NOTES stay", x.count(13), 1);
        due("the RULE stays", x.count(4), 0);
    }

    private static void undoTwenty() {
        OneDecision x = in("realm 9 0;question 0 0 60");
        for (int i = 1; i <= 25; i++) {
            x.grow(0, 1);
            due("acts", x.count(14), Math.min(20, i));
        }
        for (int i = 19; i >= 0; i--) {
            due("undo()", x.undo(), i);
        }
        due("worth ahead of the last 20", x.question(0, 0), 5);
        due("undo() of none", x.undo(), -2);
    }

    private static void count() {
        OneDecision x = in(REALM);
        Texts.rule(x, "ask worth");
        x.force(0);
        x.seed(77);
        x.note(3, -1);
        x.day();
        x.egg();
        x.feed(0, 0, 0, 0, 0);
        int[] wants = {2, 5, 4, 1, 0, 1, 0, 0, 13, 4, 0, 1, 1, 1, 2, 77, 20};
        for (int what = 0; what < wants.length; what++) {
            due("count(" + what + ")", x.count(what), wants[what]);
        }
        x.day();
        x.day();
        x.day();
        due("OPEN ones", x.count(6), 0);
        due("kept", x.count(7), 1);
        due("wasted", x.count(10), 1);
        due("count(17)", x.count(17), -1);
        due("count(-1)", x.count(-1), -1);
    }

    private static void image() {
        OneDecision x = in(REALM);
        x.day();
        x.tie(1, 2);
        x.grow(1, 5);
        x.seed(3);
        x.note(0, 3);
        due("image(2)", x.image(2), 1);
        due("image(4)", x.image(4), -1);
        due("image(-1)", x.image(-1), -1);
        due("back(1)", x.back(1), -1);
        due("back(4)", x.back(4), -1);
        due("back(-1)", x.back(-1), -1);
        Texts.rule(x, "ask 1");
        x.force(0);
        x.seed(4);
        x.egg();
        x.undo();
        x.undo();
        x.undo();
        x.undo();
        due("nothing to be UNDONE", x.count(14), 0);
        Texts.realm(x, "realm 7 0;question 1 0 0;question 1 0 0;wakes 0");
        x.note(4, 0);
        x.note(4, 0);
        x.feed(0, 0, 0, 0, 0);
        due("back(2)", x.back(2), 1);
        int[] wants = {2, 5, 4, 1, -1, 1, 3, 0, 4, 0, 0, 0, 1, 1, 3, 3, 20};
        for (int what = 0; what < wants.length; what++) {
            due("count(" + what + ") back", x.count(what), wants[what]);
        }
        due("worth back", x.question(1, 0), 12);
        due("alike back", x.question(2, 5), 2);
        due("NOTES back", x.ruled(1), -1);
        due("undo() back", x.undo(), 2);
        due("undo() back", x.undo(), 1);
        due("undo() back", x.undo(), 0);
        due("DAY 0", x.count(5), 0);
        due("back(2) again", x.back(2), 1);
        due("as it was", x.question(1, 0), 12);
        due("acts as they were", x.count(14), 3);
        x.day();
        due("image(2) anew", x.image(2), 2);
        x.day();
        due("back(2) anew", x.back(2), 2);
    }

    private static void imageOfNothing() {
        OneDecision x = new OneDecision();
        x.seed(8);
        due("image(3)", x.image(3), 0);
        Texts.realm(x, REALM);
        x.day();
        x.seed(1);
        due("back(3)", x.back(3), 0);
        due("no REALM", x.day(), -2);
        due("no QUESTIONS", x.count(2), 0);
        due("nothing OPEN", x.count(6), 0);
        due("x", x.count(15), 8);
        due("undo()", x.undo(), -2);
        due("cover(0)", x.cover(0), -1);
    }
}
