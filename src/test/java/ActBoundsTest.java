import java.io.IOException;

/** The edges that the document names of acts (Terms, part II) and of promises 7 to 13 and 29 to 31, by sentences. */
public final class ActBoundsTest {
    private final Sentences doc;

    private ActBoundsTest(Sentences doc) {
        this.doc = doc;
    }

    public static void main(String[] args) throws IOException {
        Sentences doc = Sentences.of(args);
        ActBoundsTest test = new ActBoundsTest(doc);
        test.open();
        test.bundles();
        test.wastedDays();
        test.whatIsPut();
        test.whatIsKept();
        test.whatIsLost();
        test.useAndEgg();
        test.tieAndGrow();
        test.lastActs();
        test.question();
        test.dayPromise();
        test.usePromise();
        test.eggPromise();
        test.tiePromise();
        test.growPromise();
        test.undoPromise();
        test.count();
        test.images();
        test.imagePromises();
        doc.close();
    }

    private void dueBecame(OneDecision x, int... wants) {
        for (int q = 0; q < wants.length; q++) {
            doc.due("question(" + q + ", 3)", x.question(q, 3), wants[q]);
        }
    }

    private void open() {
        doc.says("A QUESTION is OPEN, if DAY is FROM or later, and it is neither answered nor lost.");
        OneDecision x = doc.byRule(doc.in("realm 0 0;question 5 2 3"), "ask 0");
        for (int day = 0; day <= 5; day++) {
            int want = day == 2 || day == 3 ? 1 : 0;
            doc.due("question(0, 4) on DAY " + day, x.question(0, 4), want);
            doc.due("count(6) on DAY " + day, x.count(6), want);
            x.day();
        }
        OneDecision late = doc.byRule(doc.in("realm 0 0;question 5 60 60"), "ask 0");
        for (int day = 0; day < 60; day++) {
            late.day();
        }
        doc.due("on DAY 60", late.count(6), 1);
        OneDecision answered = doc.in("realm 0 0;question 5 0 9;question 5 0 9;question 5 0 9;alike 0 1");
        doc.due("all", answered.count(6), 7);
        answered.day();
        doc.due("neither answered nor in the bundle", answered.count(6), 4);
    }

    private void bundles() {
        doc.says("each OPEN one alike is answered with it, in the bundle");
        String four = "question 8 0 9;question 6 0 9;question 4 1 9;question 2 0 9";
        OneDecision x = doc.in("realm 0 5;" + four + ";alike 0 1;alike 0 2;alike 1 3");
        doc.due("day()", x.day(), 0);
        dueBecame(x, 1, 2, 0, 0);
        doc.due("GAINED", x.count(8), 8 + 3);
        OneDecision lost = doc.in("realm 0 5;question 8 0 0;question 6 0 0;question 4 1 1;alike 1 2");
        lost.day();
        doc.due("brings no lost one", lost.question(2, 6), 4);
        doc.due("day()", lost.day(), 2);
        dueBecame(lost, 1, 3, 1);

        doc.says("and HALF tenths of its WORTH, downwards, are GAINED");
        int[][] wants = {{0, 99, 0}, {1, 9, 0}, {1, 10, 1}, {5, 99, 49}, {9, 1, 0}, {9, 9, 8}, {9, 99, 89}, {9, 0, 0}};
        for (int[] want : wants) {
            OneDecision two = doc.in("realm 0 " + want[0] + ";question 7 0 0;question " + want[1] + " 0 0;alike 0 1");
            doc.due("brings at HALF " + want[0], two.question(0, 6), 7 + want[2]);
            two.day();
            doc.due("GAINED at HALF " + want[0], two.count(8), 7 + want[2]);
        }
        OneDecision each = doc.in("realm 0 5;question 7 0 0;question 9 0 0;question 9 0 0;alike 0 1;alike 0 2");
        each.day();
        doc.due("each downwards", each.count(8), 7 + 4 + 4);

        doc.says("those alike to these are not");
        OneDecision chain = doc.in("realm 0 5;question 8 0 0;question 6 0 0;question 4 0 0;alike 0 1;alike 1 2");
        chain.day();
        dueBecame(chain, 1, 2, 3);
        doc.due("GAINED", chain.count(8), 8 + 3);
        OneDecision ring = doc.in("realm 0 5;question 8 0 0;question 6 0 0;question 4 0 0;alike 0 1;alike 1 2;alike 2 0");
        ring.day();
        doc.due("once each", ring.count(8), 8 + 3 + 2);
    }

    private void wastedDays() {
        doc.says("If he wakes by himself on it, or had an egg, it is WASTED.");
        OneDecision x = doc.in("realm 9 0;question 5 0 9;wakes 1;wakes 2");
        x.egg();
        doc.due("an egg", x.day(), -1);
        doc.due("WASTED", x.count(10), 1);
        doc.due("he wakes", x.day(), -1);
        doc.due("WASTED", x.count(10), 2);
        x.egg();
        doc.due("both", x.day(), -1);
        doc.due("WASTED once", x.count(10), 3);
        doc.due("nothing KEPT", x.count(7), 0);
        doc.due("neither", x.day(), 0);
        doc.due("WASTED", x.count(10), 3);
        x.day();
        doc.due("an unused DAY is not WASTED", x.count(10), 3);
    }

    private void whatIsPut() {
        doc.says("first CLAUSE without a TEST, or whose TEST holds (0 without)");
        OneDecision none = doc.byRule(doc.in("realm 0 0;question 5 0 9;question 6 0 9"), "ask 5 if day=1 and question=1");
        doc.due("no TEST holds", none.day(), -1);
        doc.due("it holds of one", none.day(), 1);
        OneDecision first = doc.byRule(doc.in("realm 0 0;question 5 0 9"), "ask 9 if day=2;ask 0;ask 9");
        doc.due("0 of the first", first.day(), -1);
        first.day();
        doc.due("ahead of it another", first.day(), 0);

        doc.says("is greatest, if it is above 0, of several the least, is put to him, and ANSWERED");
        String realm = "realm 0 0;question 0 0 9;question 1 0 9;question 2 0 9;question 2 0 9";
        OneDecision worth = doc.byRule(doc.in(realm), "ask worth");
        doc.due("of several the least", worth.day(), 2);
        doc.due("then the other", worth.day(), 3);
        doc.due("1 is above 0", worth.day(), 1);
        doc.due("0 is not", worth.day(), -1);
        doc.due("that stays OPEN", worth.count(6), 1);
        doc.due("below 0", doc.byRule(doc.in(realm), "ask worth-3").day(), -1);
        doc.due("one above 0", doc.byRule(doc.in(realm), "ask 1-question").day(), 0);
        doc.due("the last of all", doc.byRule(doc.in(realm), "ask question-2").day(), 3);
        doc.due("none OPEN", doc.byRule(doc.in("realm 0 0;question 9 1 1"), "ask 1").day(), -1);

        doc.says("without a RULE the one of least LAST, of several the least");
        OneDecision last = doc.in("realm 0 0;question 9 0 60;question 9 0 8;question 0 0 7;question 9 0 7;question 9 1 1");
        int[] wants = {2, 4, 3, 1, 0, -1};
        for (int want : wants) {
            doc.due("day()", last.day(), want);
        }
    }

    private void whatIsKept() {
        doc.says("is none put, the decision is KEPT, KEEPS at most are.");
        for (int keeps : new int[] {0, 1, 9}) {
            OneDecision x = doc.in("realm " + keeps + " 0;question 1 0 0");
            x.day();
            doc.due("one is put", x.count(7), 0);
            for (int day = 1; day <= keeps + 2; day++) {
                x.day();
                doc.due("KEPT of " + keeps, x.count(7), Math.min(day, keeps));
            }
        }
        OneDecision rule = doc.byRule(doc.in("realm 1 0;question 1 0 9"), "ask 0");
        rule.day();
        doc.due("KEPT, though one is OPEN", rule.count(7), 1);
    }

    private void whatIsLost() {
        doc.says("Each OPEN QUESTION whose LAST is this DAY or ahead of it is lost, its WORTH, too");
        OneDecision x = doc.byRule(doc.in("realm 0 0;question 5 0 0;question 6 0 1;question 0 1 1;question 7 1 2"), "ask 0");
        x.day();
        dueBecame(x, 3, 0, 0, 0);
        doc.due("lost", x.count(9), 5);
        x.day();
        dueBecame(x, 3, 3, 3, 0);
        doc.due("lost", x.count(9), 11);
        x.day();
        dueBecame(x, 3, 3, 3, 3);
        doc.due("lost", x.count(9), 18);
        OneDecision put = doc.in("realm 0 0;question 5 0 0");
        put.day();
        dueBecame(put, 1);
        doc.due("answered on its LAST", put.count(9), 0);
        OneDecision grown = doc.in("realm 0 0;question 5 0 0;wakes 0");
        grown.grow(0, 20);
        grown.day();
        doc.due("as it grew, on a WASTED DAY", grown.count(9), 25);

        doc.says("DAY is 1 more (999 at most); he had no egg on it.");
        OneDecision egg = doc.in("realm 0 0");
        egg.egg();
        egg.day();
        doc.due("DAY", egg.count(5), 1);
        doc.due("no egg", egg.count(11), 0);
        egg.day();
        doc.due("not WASTED", egg.count(10), 1);
    }

    private void useAndEgg() {
        doc.says("USE (a decision is KEPT, a QUESTION is OPEN: one less is kept, it is ANSWERED)");
        OneDecision x = doc.in("realm 2 5;question 5 2 2;question 7 2 9;question 9 2 9;alike 0 1;wakes 2");
        doc.due("nothing KEPT, not OPEN", x.use(0), -1);
        x.day();
        x.day();
        doc.due("KEPT", x.count(7), 2);
        doc.due("on its LAST, which is WASTED", x.use(0), 5 + 3);
        doc.due("one less", x.count(7), 1);
        doc.due("the last that is KEPT", x.use(2), 9);
        doc.due("none", x.count(7), 0);
        doc.due("DAY stays", x.count(5), 2);
        dueBecame(x, 1, 2, 1);
        doc.due("GAINED", x.count(8), 17);
        doc.due("ACTS", x.count(14), 4);
        x.undo();
        doc.due("KEPT, behind undo()", x.count(7), 1);
        doc.due("OPEN, behind undo()", x.question(2, 4), 1);

        doc.says("EGG (he has had none on this DAY: he has)");
        OneDecision egg = doc.in("realm 0 0;wakes 0");
        doc.due("though he wakes", egg.egg(), 0);
        doc.due("has had one", egg.egg(), -1);
        egg.day();
        doc.due("on the next", egg.egg(), 1);
        egg.undo();
        doc.due("behind undo()", egg.egg(), 1);
    }

    private void tieAndGrow() {
        doc.says("TIE (two QUESTIONS that are not alike are from now on, two that are, are no more)");
        OneDecision x = doc.in("realm 0 0" + ";question 1 0 0".repeat(8) + ";alike 0 1");
        doc.due("tie(0, 7)", x.tie(0, 7), 1);
        doc.due("alike to 0", x.question(0, 5), 130);
        doc.due("alike to 7", x.question(7, 5), 1);
        doc.due("tie(7, 0)", x.tie(7, 0), 0);
        doc.due("alike to 0", x.question(0, 5), 2);
        doc.due("alike to 7", x.question(7, 5), 0);
        doc.due("told ones", x.tie(0, 1), 0);
        doc.due("alike to 1", x.question(1, 5), 0);
        x.day();
        doc.due("answered and lost", x.tie(0, 1), 1);

        doc.says("GROW (of a QUESTION that is neither answered nor lost so much more WORTH, 1 to 99; 999 at most)");
        OneDecision grown = doc.in("realm 0 0;question 0 0 0;question 99 0 0;question 9 5 5");
        doc.due("by 1", grown.grow(0, 1), 1);
        doc.due("by 99", grown.grow(0, 99), 100);
        doc.due("that is not there yet", grown.grow(2, 1), 10);
        for (int i = 1; i <= 9; i++) {
            grown.grow(1, 99);
        }
        doc.due("to 998", grown.grow(1, 8), 998);
        doc.due("to 999", grown.grow(1, 1), 999);
        grown.undo();
        doc.due("beyond by one", grown.grow(1, 2), 999);
        doc.due("beyond", grown.grow(1, 99), 999);
        doc.due("at 999", grown.question(1, 0), 999);
        doc.due("ACTS all the same", grown.count(14), 15);
    }

    private void lastActs() {
        doc.says("The last 20 ACTS can be UNDONE, the last first.");
        OneDecision few = doc.in("realm 0 0;question 0 0 60;question 9 0 60");
        int[] worths = new int[44];
        for (int act = 1; act <= 43; act++) {
            worths[act] = few.grow(0, act % 20 + 1);
            doc.due("ACTS", few.count(14), Math.min(act, 20));
        }
        for (int left = 19; left >= 0; left--) {
            doc.due("undo()", few.undo(), left);
            doc.due("WORTH", few.question(0, 0), worths[23 + left]);
        }
        doc.due("a 21st", few.undo(), -2);
        few.tie(0, 1);
        few.egg();
        few.day();
        few.undo();
        doc.due("a DAY was the last", few.count(11), 1);
        few.undo();
        doc.due("ahead of it an egg", few.count(11), 0);
        doc.due("still alike", few.question(0, 5), 2);
        few.undo();
        doc.due("first they were tied", few.question(0, 5), 0);
    }

    private void question() {
        doc.says("3: 0 neither, 1 answered, 2 answered in a bundle, 3 lost");
        OneDecision x = doc.in("realm 0 5;question 5 0 0;question 6 0 9;question 7 0 0;question 8 1 9;alike 0 1;alike 2 3");
        dueBecame(x, 0, 0, 0, 0);
        x.day();
        dueBecame(x, 1, 2, 3, 0);

        doc.says("6: what its answer would bring now (0 if it is not OPEN). NONE without these.");
        int[] brings = {0, 0, 0, 8};
        for (int q = 0; q < 4; q++) {
            doc.due("question(" + q + ", 6)", x.question(q, 6), brings[q]);
        }
        x.tie(3, 1);
        doc.due("with one that is answered", x.question(3, 6), 8);
        doc.due("ahead of FROM", doc.in("realm 0 0;question 9 1 1").question(0, 6), 0);
        for (int what : Sentences.outside(0, 6)) {
            doc.due("question(0, " + what + ")", x.question(0, what), -1);
        }
        for (int q : Sentences.outside(0, 3)) {
            for (int what = 0; what <= 6; what++) {
                doc.due("question(" + q + ", " + what + ")", x.question(q, what), -1);
            }
        }
        doc.due("without a REALM", new OneDecision().question(0, 3), -1);
        doc.due("without QUESTIONS", doc.in("realm 0 0").question(0, 3), -1);
    }

    private void dayPromise() {
        doc.says("A DAY: what was put to him (NONE: none); -2, and nothing happens, without a REALM, or at DAY 999.");
        OneDecision none = new OneDecision();
        none.seed(3);
        int[] before = Sentences.sight(none);
        doc.due("without a REALM", none.day(), -2);
        doc.stays(none, before);
        OneDecision x = doc.in("realm 0 0;question 5 0 0;question 6 2 2;wakes 2");
        doc.due("put", x.day(), 0);
        doc.due("none OPEN", x.day(), -1);
        doc.due("WASTED", x.day(), -1);
        doc.due("ACTS", x.count(14), 3);
        OneDecision old = dayOf999();
        int[] seen = Sentences.sight(old);
        doc.due("at DAY 999", old.day(), -2);
        doc.stays(old, seen);
        doc.due("undo()", old.undo(), 19);
        doc.due("DAY", old.count(5), 998);
        doc.due("undo() of the egg", old.undo(), 18);

        doc.says("DAYS go on by the RULE IN FORCE, beyond 999, too");
        for (int n = 0; n <= 4; n++) {
            doc.due("KEPT behind " + n, old.ahead(0, n, 3), Math.min(n, 3));
        }
    }

    /** It comes there by more than 512 calls, behind which answers are free; this class answers as ahead of them. */
    private OneDecision dayOf999() {
        OneDecision x = doc.in("realm 3 0");
        for (int day = 0; day < 999; day++) {
            x.egg();
            x.day();
        }
        return x;
    }

    private void usePromise() {
        doc.says("USE: what it brings; NONE, and nothing happens, without these.");
        String realm = "realm 1 5;question 5 0 0;question 6 0 9;question 7 0 0;question 8 9 9;question 9 0 9;alike 0 1";
        OneDecision x = doc.in(realm);
        int[] begin = Sentences.sight(x);
        doc.due("nothing is KEPT", x.use(4), -1);
        doc.stays(x, begin);
        doc.due("day()", x.day(), 0);
        doc.byRule(x, "ask 0");
        x.day();
        int[] before = Sentences.sight(x);
        doc.due("answered", x.use(0), -1);
        doc.due("in a bundle", x.use(1), -1);
        doc.due("lost", x.use(2), -1);
        doc.due("ahead of FROM", x.use(3), -1);
        for (int q : Sentences.outside(0, 4)) {
            doc.due("use(" + q + ")", x.use(q), -1);
        }
        doc.stays(x, before);
        doc.due("use(4)", x.use(4), 9);
        doc.due("without a REALM", new OneDecision().use(0), -1);
    }

    private void eggPromise() {
        doc.says("EGG: the DAY; NONE, and nothing happens, if he has had one, or without a REALM.");
        OneDecision x = doc.in("realm 0 0");
        for (int day = 0; day < 70; day++) {
            x.day();
        }
        doc.due("the DAY", x.egg(), 70);
        int[] before = Sentences.sight(x);
        doc.due("has had one", x.egg(), -1);
        doc.stays(x, before);
        OneDecision none = new OneDecision();
        doc.due("without a REALM", none.egg(), -1);
        doc.due("no egg", none.count(11), 0);
        doc.due("no ACT", none.count(14), 0);
    }

    private void tiePromise() {
        doc.says("TIE: 1 if they are alike then, else 0; NONE, and nothing happens, without these (unlike).");
        OneDecision x = doc.in("realm 0 0;question 1 0 0;question 1 0 0;question 1 0 0;alike 0 1");
        int[] before = Sentences.sight(x);
        for (int q = 0; q < 3; q++) {
            doc.due("tie(" + q + ", " + q + ")", x.tie(q, q), -1);
            for (int other : Sentences.outside(0, 2)) {
                doc.due("tie(" + q + ", " + other + ")", x.tie(q, other), -1);
                doc.due("tie(" + other + ", " + q + ")", x.tie(other, q), -1);
                doc.due("tie(" + other + ", " + other + ")", x.tie(other, other), -1);
            }
        }
        doc.stays(x, before);
        doc.due("tie(1, 0)", x.tie(1, 0), 0);
        doc.due("tie(1, 0) again", x.tie(1, 0), 1);
        doc.due("without a REALM", new OneDecision().tie(0, 1), -1);
    }

    private void growPromise() {
        doc.says("GROW: WORTH then; NONE, and nothing happens, without these.");
        OneDecision x = doc.in("realm 0 0;question 5 0 0;question 6 0 9;question 7 0 0;question 8 9 9;alike 0 1");
        x.day();
        int[] before = Sentences.sight(x);
        doc.due("answered", x.grow(0, 1), -1);
        doc.due("in a bundle", x.grow(1, 1), -1);
        doc.due("lost", x.grow(2, 1), -1);
        for (int more : Sentences.outside(1, 99)) {
            doc.due("grow(3, " + more + ")", x.grow(3, more), -1);
        }
        for (int q : Sentences.outside(0, 3)) {
            doc.due("grow(" + q + ", 1)", x.grow(q, 1), -1);
        }
        doc.stays(x, before);
        doc.due("grow(3, 99)", x.grow(3, 99), 107);
        doc.due("without a REALM", new OneDecision().grow(0, 1), -1);
    }

    private void undoPromise() {
        doc.says("The last ACT is UNDONE: how many more can be; -2, and nothing happens: none can.");
        OneDecision x = doc.in("realm 1 5;question 5 0 9;question 6 0 0;question 7 0 0;question 8 1 9;alike 0 3;alike 1 3");
        int[] before = Sentences.sight(x);
        doc.due("none", x.undo(), -2);
        doc.stays(x, before);
        x.day();
        x.day();
        x.egg();
        x.tie(1, 2);
        doc.due("undo()", x.undo(), 3);
        doc.due("undo()", x.undo(), 2);
        doc.due("undo()", x.undo(), 1);
        doc.due("the last", x.undo(), 0);
        doc.stays(x, before);
        doc.due("none", x.undo(), -2);
        doc.due("without a REALM", new OneDecision().undo(), -2);
    }

    private void count() {
        doc.says("12: 1 if he wakes by himself on this DAY, as told, else 0");
        OneDecision x = doc.in("realm 0 0;wakes 1");
        doc.due("on DAY 0", x.count(12), 0);
        x.egg();
        doc.due("an egg is another thing", x.count(12), 0);
        x.day();
        doc.due("on DAY 1", x.count(12), 1);
        doc.due("no egg", x.count(11), 0);

        doc.says("15: x, 16: bytes of the TAPE. NONE for others.");
        for (OneDecision any : new OneDecision[] {x, new OneDecision()}) {
            doc.due("x", any.count(15), 0);
            doc.due("bytes", any.count(16), 0);
            for (int what : Sentences.outside(0, 16)) {
                doc.due("count(" + what + ")", any.count(what), -1);
            }
        }
    }

    private void images() {
        doc.says("IMAGES 0 to 3: all but the RULES and the TAPE, as it is (the RULE IN FORCE, what can be UNDONE, too)");
        OneDecision x = doc.in("realm 3 5;question 5 0 3;question 6 0 0;question 7 0 9;alike 0 1;wakes 1");
        for (int i = 0; i < 25; i++) {
            x.grow(2, 1);
        }
        doc.byRule(x, "ask question");
        x.seed(9);
        x.note(0, 1);
        x.note(3, -1);
        x.egg();
        int[] before = Sentences.sight(x);
        doc.due("image(3)", x.image(3), 0);
        Texts.realm(x, "realm 0 0;question 1 0 0");
        x.day();
        x.force(-1);
        x.seed(0);
        for (int i = 0; i < 3; i++) {
            x.note(60, -1);
        }
        doc.due("back(3)", x.back(3), 0);
        doc.stays(x, before);
        doc.due("the NOTES are as they were", x.ruled(0), 1);
        for (int left = 19; left >= 0; left--) {
            doc.due("undo()", x.undo(), left);
        }
        doc.due("WORTH ahead of the last 20", x.question(2, 0), 7 + 6);

        doc.says("gone back to, it is as it was (these stay)");
        Texts.rule(x, "ask 2");
        Texts.feed(x, "ask 3");
        doc.due("back(3)", x.back(3), 0);
        doc.due("RULES stay", x.count(3), 2);
        doc.due("the TAPE stays", x.count(16), 5);
        doc.due("as it was fed", x.rule(), 2);
        x.day();
        doc.due("back(3) again", x.back(3), 0);
        doc.due("what can be UNDONE", x.count(14), 20);
    }

    private void imagePromises() {
        doc.says("An IMAGE is made: the DAY; NONE without it.");
        OneDecision x = doc.in("realm 0 0;question 1 0 60");
        for (int k = 0; k < 4; k++) {
            doc.due("image(" + k + ")", x.image(k), k);
            x.day();
        }
        for (int k : Sentences.outside(0, 3)) {
            doc.due("image(" + k + ")", x.image(k), -1);
        }
        for (int k = 3; k >= 0; k--) {
            doc.due("back(" + k + ")", x.back(k), k);
        }
        x.image(3);
        doc.due("made anew", x.back(3), 0);
        doc.due("without a REALM", new OneDecision().image(0), 0);

        doc.says("All is as in an IMAGE: the DAY; NONE, and nothing happens, if it was never made, or without it.");
        OneDecision few = doc.in("realm 0 0;question 1 0 60;question 2 0 3");
        few.image(1);
        few.day();
        int[] before = Sentences.sight(few);
        for (int k : new int[] {Integer.MIN_VALUE, -1, 0, 2, 3, 4, Integer.MAX_VALUE}) {
            doc.due("back(" + k + ")", few.back(k), -1);
        }
        doc.stays(few, before);
        doc.due("back(1)", few.back(1), 0);
        OneDecision none = new OneDecision();
        none.image(0);
        Texts.realm(none, "realm 0 0");
        none.day();
        doc.due("back to no REALM", none.back(0), 0);
        doc.due("day()", none.day(), -2);
    }
}
