import java.io.IOException;
import java.math.BigInteger;

/** The edges that the document names of what is asked (Terms, part III) and of promises 14 to 28, by sentences. */
public final class AskedBoundsTest {
    private static final int NO_BALANCE = -100000;
    private static final int MAX = Integer.MAX_VALUE;

    private final Sentences doc;

    private AskedBoundsTest(Sentences doc) {
        this.doc = doc;
    }

    public static void main(String[] args) throws IOException {
        Sentences doc = Sentences.of(args);
        AskedBoundsTest test = new AskedBoundsTest(doc);
        test.nothingChanges();
        test.aheadTerms();
        test.ahead();
        test.fateTerms();
        test.fate();
        test.rowTerms();
        test.row();
        test.bindTerms();
        test.bind();
        test.rescueTerms();
        test.rescue();
        test.coverTerms();
        test.cover();
        test.today();
        test.wasteTerms();
        test.waste();
        test.blameTerms();
        test.blame();
        test.wokeTerms();
        test.woke();
        test.note();
        test.ruled();
        test.look();
        test.draws();
        test.seed();
        test.reignsTerms();
        test.reigns();
        doc.close();
    }

    /** One question that is lost behind a day, if he wakes on it: it shows whether that day was passed. */
    private OneDecision lostOn(int day) {
        return doc.in("realm 0 0;question 5 " + day + " " + day + ";wakes " + day);
    }

    private void nothingChanges() {
        doc.says("By what is asked nothing changes");
        OneDecision x = doc.in("realm 2 5;question 10 0 1;question 7 0 3;question 20 2 4;question 4 0 0;alike 0 1;wakes 1");
        doc.byRule(x, "ask worth if left>0");
        x.day();
        x.note(9, -1);
        x.seed(5);
        x.feed(0, 0, 0, 0, 0);
        int[] before = Sentences.sight(x);
        for (int what = 0; what <= 4; what++) {
            x.ahead(1, 100, what);
            x.fate(2, what);
            x.row(4, what);
            x.bind(60, what);
            x.rescue(60, what);
            x.cover(what);
            x.today(60);
            x.waste(20, what);
            x.blame(9999, what);
            x.woke(0, 60, 20, what);
            x.ruled(what);
            x.look(what);
            x.reigns(10, 60, 50, what);
        }
        doc.stays(x, before);
    }

    private void aheadTerms() {
        doc.says("AHEAD n DAYS (0 to 100): what became of a QUESTION; GAINED; lost; how many are KEPT.");
        OneDecision x = lostOn(60);
        doc.due("0 DAYS", x.ahead(0, 0, 0), 0);
        doc.due("60 DAYS", x.ahead(0, 60, 2), 0);
        doc.due("61 DAYS", x.ahead(0, 61, 2), 5);
        doc.due("100 DAYS", x.ahead(0, 100, 0), 3);
        for (int n : Sentences.outside(0, 100)) {
            for (int what = 0; what <= 3; what++) {
                doc.due("ahead(0, " + n + ", " + what + ")", x.ahead(0, n, what), -1);
            }
        }
        OneDecision kept = doc.in("realm 9 0");
        for (int n = 0; n <= 11; n++) {
            doc.due("KEPT behind " + n, kept.ahead(0, n, 3), Math.min(n, 9));
        }
        OneDecision now = doc.in("realm 1 5;question 5 0 0;question 6 0 0;question 7 0 0;question 8 1 1;alike 0 1");
        now.day();
        doc.due("as it is", now.ahead(0, 0, 0), 1);
        doc.due("as it is", now.ahead(1, 0, 0), 2);
        doc.due("as it is", now.ahead(2, 0, 0), 3);
        doc.due("as it is", now.ahead(3, 0, 0), 0);
        doc.due("as it is", now.ahead(0, 0, 1), 8);
        doc.due("as it is", now.ahead(0, 0, 2), 7);
        doc.due("as it is", now.ahead(0, 0, 3), 0);
    }

    private void ahead() {
        doc.says("3: KEPT (of no QUESTION). NONE without these, or a REALM.");
        OneDecision x = doc.in("realm 1 0;question 5 0 0;question 6 0 0");
        int[] wants = {0, 5, 6, 1};
        for (int q : Sentences.outside(0, 1)) {
            doc.due("ahead(" + q + ", 2, 0)", x.ahead(q, 2, 0), -1);
            for (int what = 1; what <= 3; what++) {
                doc.due("ahead(" + q + ", 2, " + what + ")", x.ahead(q, 2, what), wants[what]);
            }
        }
        for (int what : Sentences.outside(0, 3)) {
            doc.due("ahead(0, 2, " + what + ")", x.ahead(0, 2, what), -1);
        }
        for (int what = 0; what <= 3; what++) {
            doc.due("without a REALM", new OneDecision().ahead(0, 0, what), -1);
        }
        doc.due("without QUESTIONS", doc.in("realm 0 0").ahead(0, 0, 0), -1);
    }

    private void fateTerms() {
        doc.says("the first DAY, this one the first, of 100, on which it is; what becomes of it");
        OneDecision x = doc.in("realm 0 0;question 5 0 60;question 6 0 1;question 7 1 1;question 8 60 60;alike 0 2;wakes 60");
        doc.byRule(x, "ask question");
        int[] days = {1, 0, 1, 60};
        int[] became = {2, 1, 1, 3};
        for (int q = 0; q < 4; q++) {
            doc.due("fate(" + q + ", 0)", x.fate(q, 0), days[q]);
            doc.due("fate(" + q + ", 1)", x.fate(q, 1), became[q]);
        }
        x.day();
        doc.due("the DAY, which is this one", x.fate(2, 0), 1);
        doc.due("the DAY", x.fate(3, 0), 60);
        x.egg();
        doc.due("lost on this one", x.fate(2, 0), 1);
        doc.due("lost on this one", x.fate(2, 1), 3);
    }

    private void fate() {
        doc.says("FATE what 0: the DAY, 1: what (1 to 3); -2: on none of these. NONE without these.");
        OneDecision x = doc.in("realm 0 5;question 5 0 0;question 6 0 9;question 7 0 0;question 8 9 9;alike 0 1");
        for (int q : Sentences.outside(0, 3)) {
            doc.due("fate(" + q + ", 0)", x.fate(q, 0), -1);
        }
        for (int what : Sentences.outside(0, 1)) {
            doc.due("fate(3, " + what + ")", x.fate(3, what), -1);
        }
        x.day();
        for (int what = 0; what <= 1; what++) {
            doc.due("answered", x.fate(0, what), -1);
            doc.due("in a bundle", x.fate(1, what), -1);
            doc.due("lost", x.fate(2, what), -1);
        }
        doc.due("neither", x.fate(3, 0), 9);
        doc.due("without a REALM", new OneDecision().fate(0, 0), -1);
    }

    private void dueRow(OneDecision x, int n, int more, int... whom) {
        doc.due("row(" + n + ", 0)", x.row(n, 0), more);
        for (int day = 1; day <= 4; day++) {
            doc.due("row(" + n + ", " + day + ")", x.row(n, day), day > n ? -2 : whom[day - 1]);
        }
    }

    private void rowTerms() {
        doc.says("ROW for n DAYS (1 to 4)");
        OneDecision days = doc.in("realm 0 0;question 1 0 0;question 2 1 1;question 3 2 2;question 4 3 3;question 5 4 4");
        dueRow(days, 1, 1, 0);
        dueRow(days, 2, 3, 0, 1);
        dueRow(days, 3, 6, 0, 1, 2);
        dueRow(days, 4, 10, 0, 1, 2, 3);
        for (int n : Sentences.outside(1, 4)) {
            for (int what = 0; what <= 4; what++) {
                doc.due("row(" + n + ", " + what + ")", days.row(n, what), NO_BALANCE);
            }
        }

        doc.says("on each one that is not WASTED an OPEN QUESTION, any, or none, is put to him in place of what the RULE says");
        OneDecision x = doc.in("realm 0 9;question 5 0 3;question 10 1 1;question 10 3 3;alike 0 1;alike 0 2;wakes 2");
        doc.byRule(x, "ask 0");
        dueRow(x, 1, 5, 0);
        dueRow(x, 2, 15, 0, 1);
        dueRow(x, 3, 15, 0, 1, -1);
        dueRow(x, 4, 25, 0, 1, -1, 2);
        x.egg();
        dueRow(x, 1, 0, -1);
        dueRow(x, 2, 14, -1, 0);
        doc.due("nothing but WASTED", lostOn(0).row(1, 1), -1);
        doc.due("nothing OPEN", doc.in("realm 0 0;question 9 1 1").row(1, 1), -1);

        doc.says("of several the first row (none ahead of QUESTION 0)");
        OneDecision alike = doc.in("realm 0 0;question 5 0 9;question 5 0 9;question 0 0 9");
        dueRow(alike, 1, 5, 0);
        dueRow(alike, 2, 10, 0, 1);
        dueRow(alike, 3, 10, -1, 0, 1);
        dueRow(alike, 4, 10, -1, -1, 0, 1);
        dueRow(doc.in("realm 0 0;question 0 0 9"), 4, 0, -1, -1, -1, -1);
        dueRow(doc.in("realm 0 0"), 4, 0, -1, -1, -1, -1);
    }

    private void row() {
        doc.says("ROW what 0: how much more (below 0, too), 1 to 4: the QUESTION on that DAY (NONE: none; -2: there is no such DAY). -100000 without these, or a REALM.");
        OneDecision x = doc.in("realm 0 0;question 5 0 0;question 6 0 0;question 9 0 0");
        dueRow(x, 1, 9 - 11, 2);
        x.day();
        dueRow(x, 2, 0, -1, -1);
        for (int what : Sentences.outside(0, 4)) {
            doc.due("row(4, " + what + ")", x.row(4, what), NO_BALANCE);
            doc.due("row(1, " + what + ")", x.row(1, what), NO_BALANCE);
        }
        for (int what = 0; what <= 4; what++) {
            doc.due("without a REALM", new OneDecision().row(1, what), NO_BALANCE);
        }
    }

    private void dueBind(OneDecision x, int n, int more, int one, int other) {
        doc.due("bind(" + n + ", 0)", x.bind(n, 0), more);
        doc.due("bind(" + n + ", 1)", x.bind(n, 1), one);
        doc.due("bind(" + n + ", 2)", x.bind(n, 2), other);
    }

    private void bindTerms() {
        doc.says("BIND for n DAYS (1 to 60)");
        dueBind(lostOn(0), 1, -5, -1, -1);
        dueBind(lostOn(59), 59, 0, -1, -1);
        dueBind(lostOn(59), 60, -5, -1, -1);
        for (int n : Sentences.outside(1, 60)) {
            dueBind(lostOn(0), n, NO_BALANCE, NO_BALANCE, NO_BALANCE);
        }

        doc.says("two QUESTIONS that are not alike, which were best TIED now, or none");
        String three = "realm 0 9;question 10 0 0;question 20 0 0;question 30 0 0";
        dueBind(doc.in(three), 1, 10 - 20 + 27, 0, 2);
        dueBind(doc.in(three + ";alike 0 2"), 1, 10 + 18 + 27, 0, 1);
        dueBind(doc.in(three + ";alike 0 1;alike 0 2"), 1, 55, -1, -1);
        dueBind(doc.in(three + ";alike 0 1;alike 0 2;alike 1 2"), 1, 55, -1, -1);
        dueBind(doc.in("realm 0 9;question 10 0 0"), 1, 10, -1, -1);
        dueBind(doc.in("realm 0 9"), 1, 0, -1, -1);

        doc.says("of several none, then the first one least, then the second");
        dueBind(doc.in("realm 0 0;question 9 0 9;question 9 0 9"), 1, 9, -1, -1);
        dueBind(doc.in("realm 0 9;question 9 0 0;question 9 0 0;question 9 0 0"), 1, 9 + 8 - 9, 0, 1);
        OneDecision second = doc.in("realm 0 9;question 0 9 9;question 9 0 0;question 9 0 0;question 9 0 0");
        dueBind(second, 1, 9 + 8 - 9, 1, 2);
        second.tie(1, 2);
        dueBind(second, 1, 9 + 8 + 8, 1, 3);
    }

    private void bind() {
        doc.says("BIND what 0: how much more (below 0, too), 1, 2: who (NONE: none). -100000 without these, or a REALM.");
        OneDecision x = doc.in("realm 0 9;question 9 0 0;question 9 1 1;question 9 1 1");
        doc.due("more", x.bind(2, 0), 9 + 9 + 8);
        x.day();
        doc.due("more than now", x.bind(1, 0), 9 + 8);
        doc.due("below 0", lostOn(0).bind(1, 0), -5);
        for (int what : Sentences.outside(0, 2)) {
            doc.due("bind(1, " + what + ")", x.bind(1, what), NO_BALANCE);
        }
        dueBind(new OneDecision(), 1, NO_BALANCE, NO_BALANCE, NO_BALANCE);
    }

    private void dueRescue(OneDecision x, int n, int many, int set) {
        doc.due("rescue(" + n + ", 0)", x.rescue(n, 0), many);
        doc.due("rescue(" + n + ", 1)", x.rescue(n, 1), set);
    }

    private void rescueTerms() {
        doc.says("RESCUE for n DAYS (1 to 60)");
        dueRescue(lostOn(0), 1, 1, 1);
        dueRescue(lostOn(59), 59, 0, 0);
        dueRescue(lostOn(59), 60, -2, -2);
        for (int n : Sentences.outside(1, 60)) {
            dueRescue(lostOn(0), n, -1, -1);
        }

        doc.says("one behind the other by numbers (those still OPEN then; it takes nothing), so that none is lost in these");
        String four = "realm 0 0;question 1 0 0;question 1 0 0;question 1 0 0;question 1 0 0";
        // 1 is answered with 0, so that 2, which is alike to 1, is not
        dueRescue(doc.in(four + ";alike 0 1;alike 1 2;alike 0 3;wakes 0"), 1, 2, 5);
        dueRescue(doc.in(four), 1, 3, 7);
        OneDecision gained = doc.in("realm 0 0;question 9 0 0;question 1 0 0;question 1 0 1");
        doc.byRule(gained, "ask 1 if gained=9");
        dueRescue(gained, 1, 1, 1);
        dueRescue(gained, 2, 3, 7);
        OneDecision lost = doc.in("realm 0 0;question 9 0 0;question 9 0 0");
        lost.day();
        dueRescue(lost, 60, 0, 0);

        doc.says("how many; of several sets the least as bits. COVER");
        dueRescue(doc.in(four + ";wakes 0;alike 2 3;alike 0 1"), 1, 2, 5);
        dueRescue(doc.in(four + ";wakes 0;alike 3 0;alike 3 1;alike 3 2"), 1, 1, 8);
        dueRescue(doc.in("realm 0 0;wakes 0" + ";question 1 0 0".repeat(8)), 1, 8, 255);
    }

    private void rescue() {
        doc.says("RESCUE what 0: how many, 1: the set; -2: by none. NONE without these, or a REALM.");
        dueRescue(doc.in("realm 0 0"), 60, 0, 0);
        OneDecision x = lostOn(1);
        dueRescue(x, 1, 0, 0);
        dueRescue(x, 2, -2, -2);
        x.day();
        dueRescue(x, 1, 1, 1);
        for (int what : Sentences.outside(0, 1)) {
            doc.due("rescue(1, " + what + ")", x.rescue(1, what), -1);
        }
        dueRescue(new OneDecision(), 1, -1, -1);
    }

    private void dueCover(OneDecision x, int many, int set) {
        doc.due("cover(0)", x.cover(0), many);
        doc.due("cover(1)", x.cover(1), set);
    }

    private void coverTerms() {
        doc.says("COVER: the fewest OPEN QUESTIONS, so that each OPEN one is one of these, or alike to one");
        String four = "realm 0 0;question 1 0 9;question 1 0 9;question 1 0 9;question 1 0 9";
        dueCover(doc.in(four), 4, 15);
        dueCover(doc.in(four + ";alike 0 1;alike 1 2;alike 2 3"), 2, 3 + 2);
        dueCover(doc.in(four + ";alike 3 0;alike 3 1;alike 3 2"), 1, 8);
        dueCover(doc.in(four + ";question 1 1 9;alike 4 0;alike 4 1;alike 4 2;alike 4 3"), 4, 15);
        dueCover(doc.in("realm 0 0" + ";question 1 0 9".repeat(8)), 8, 255);
        dueCover(doc.in("realm 0 0"), 0, 0);
        dueCover(doc.in("realm 0 0;question 1 1 1"), 0, 0);
        OneDecision answered = doc.in(four + ";alike 0 1;alike 1 2");
        answered.day();
        dueCover(answered, 2, 12);

        doc.says("or alike to one: how many; of several sets the least as bits");
        dueCover(doc.in(four + ";alike 0 1;alike 2 3"), 2, 5);
        dueCover(doc.in(four + ";alike 0 1;alike 1 2;alike 0 3"), 2, 3);
    }

    private void cover() {
        doc.says("COVER what 0: how many, 1: the set. NONE for others, or without a REALM.");
        for (int what : Sentences.outside(0, 1)) {
            doc.due("cover(" + what + ")", doc.in("realm 0 0").cover(what), -1);
        }
        dueCover(new OneDecision(), -1, -1);
    }

    private void today() {
        doc.says("TODAY for n DAYS (1 to 60): GAINED less lost then, less what it would be with an egg now.");
        OneDecision x = doc.byRule(doc.in("realm 0 0;question 5 59 59"), "ask 1 if wasted=0");
        doc.due("today(59)", x.today(59), 0);
        doc.due("today(60)", x.today(60), 10);
        doc.due("today(1)", doc.in("realm 0 0;question 5 0 0").today(1), 10);
        doc.due("on a WASTED DAY", lostOn(0).today(1), 0);
        x.egg();
        doc.due("with an egg", x.today(60), 0);

        doc.says("TODAY (below 0, too); -100000 without these, or a REALM.");
        OneDecision below = doc.byRule(doc.in("realm 0 0;question 5 1 1"), "ask wasted");
        doc.due("below 0", below.today(2), -5 - 5);
        for (int n : Sentences.outside(1, 60)) {
            doc.due("today(" + n + ")", below.today(n), NO_BALANCE);
        }
        doc.due("without a REALM", new OneDecision().today(1), NO_BALANCE);
    }

    private void dueWaste(OneDecision x, int n, int which, int more) {
        doc.due("waste(" + n + ", 0)", x.waste(n, 0), which);
        doc.due("waste(" + n + ", 1)", x.waste(n, 1), more);
    }

    private void wasteTerms() {
        doc.says("WASTE for n DAYS (1 to 20): on which of these (0 from now on) an egg costs least, GAINED less lost then");
        String days = "realm 0 0;question 9 18 18;question 5 19 19";
        String rule = "ask 1 if wasted=0 and day<19";
        dueWaste(doc.byRule(doc.in(days), rule), 20, 19, 9 - 5);
        dueWaste(doc.byRule(doc.in(days), rule), 19, 0, -9);
        dueWaste(doc.in("realm 0 0;question 5 0 0"), 1, 0, -5);
        dueWaste(doc.in("realm 0 0;question 5 0 0;question 9 2 2;wakes 2"), 2, 1, 5);
        OneDecision later = doc.byRule(doc.in(days), rule);
        later.day();
        dueWaste(later, 18, 0, -9);
        dueWaste(later, 19, 18, 9 - 5);
        dueWaste(later, 20, 18, 9 - 5);
        for (int n : Sentences.outside(1, 20)) {
            dueWaste(later, n, NO_BALANCE, NO_BALANCE);
        }

        doc.says("of several the least; how much more than now. BLAME");
        dueWaste(doc.in("realm 0 0"), 20, 0, 0);
        OneDecision several = doc.in("realm 0 0;question 9 0 0;question 5 1 1;question 9 2 2;question 5 3 3");
        dueWaste(several, 4, 1, 9 - 5 + 9 + 5);
        several.day();
        dueWaste(several, 3, 0, -5 + 9 + 5);
    }

    private void waste() {
        doc.says("WASTE what 0: which, 1: how much more (below 0, too). -100000 without these, or a REALM.");
        dueWaste(lostOn(0), 1, 0, -5);
        for (int what : Sentences.outside(0, 1)) {
            doc.due("waste(1, " + what + ")", lostOn(0).waste(1, what), NO_BALANCE);
        }
        dueWaste(new OneDecision(), 1, NO_BALANCE, NO_BALANCE);
    }

    /** All questions of these worths are lost, and this is blamed on them. */
    private void dueBlame(int much, int[] worths, int... wants) {
        StringBuilder realm = new StringBuilder("realm 0 0;wakes 0");
        for (int worth : worths) {
            realm.append(";question ").append(worth).append(" 0 0");
        }
        OneDecision x = doc.in(realm.toString());
        x.day();
        for (int q = 0; q < wants.length; q++) {
            doc.due("blame(" + much + ", " + q + ")", x.blame(much, q), wants[q]);
        }
    }

    private void blameTerms() {
        doc.says("BLAME (0 to 9999) among lost QUESTIONS by WORTH");
        dueBlame(0, new int[] {5, 6}, 0, 0);
        dueBlame(9999, new int[] {5}, 9999);
        dueBlame(9999, new int[] {99, 99, 99, 99, 99, 99, 99, 99}, 1250, 1250, 1250, 1250, 1250, 1250, 1250, 1249);
        dueBlame(10000, new int[] {5}, -1);
        dueBlame(-1, new int[] {5}, -1);
        dueBlame(MAX, new int[] {5}, -1);
        dueBlame(Integer.MIN_VALUE, new int[] {5}, -1);

        doc.says("each the part downwards; what is left, one each, to those whose part lost most by that, of several the least first");
        dueBlame(12, new int[] {1, 2, 3}, 2, 4, 6);
        dueBlame(10, new int[] {1, 2, 4}, 1, 3, 6);
        dueBlame(1, new int[] {5, 5, 5}, 1, 0, 0);
        dueBlame(2, new int[] {5, 5, 5}, 1, 1, 0);
        dueBlame(1, new int[] {5, 6, 5}, 0, 1, 0);
        dueBlame(1, new int[] {0, 0, 1}, 0, 0, 1);
        dueBlame(7, new int[] {0, 3, 3}, 0, 4, 3);

        doc.says("(nothing, if nothing is lost; all WORTH 0: alike)");
        doc.due("nothing is lost", doc.in("realm 0 0;question 9 0 0").blame(7, 0), 0);
        dueBlame(7, new int[] {0, 0, 0}, 3, 2, 2);
        dueBlame(2, new int[] {0, 0, 0}, 1, 1, 0);
        dueBlame(9999, new int[] {0}, 9999);
        OneDecision x = doc.in("realm 0 0;question 99 0 0;question 0 0 0;question 50 1 1;question 0 0 0");
        x.day();
        int[] wants = {0, 3, 0, 2};
        for (int q = 0; q < 4; q++) {
            doc.due("of WORTH 0 alone, " + q, x.blame(5, q), wants[q]);
        }
    }

    private void blame() {
        doc.says("BLAME of a QUESTION (0, if it is not lost); NONE without these.");
        OneDecision x = doc.in("realm 0 5;question 5 0 0;question 6 0 9;question 7 0 0;question 8 9 9;alike 0 1");
        x.day();
        int[] wants = {0, 0, 100, 0};
        for (int q = 0; q < 4; q++) {
            doc.due("blame(100, " + q + ")", x.blame(100, q), wants[q]);
            for (int much : Sentences.outside(0, 9999)) {
                doc.due("blame(" + much + ", " + q + ")", x.blame(much, q), -1);
            }
        }
        for (int q : Sentences.outside(0, 3)) {
            doc.due("blame(100, " + q + ")", x.blame(100, q), -1);
        }
        doc.due("without a REALM", new OneDecision().blame(0, 0), -1);
    }

    private void dueWoke(OneDecision x, int rule, int n, int gained, int... wants) {
        for (int what = 0; what <= 2; what++) {
            doc.due("woke(" + rule + ", " + n + ", " + gained + ", " + what + ")", x.woke(rule, n, gained, what), wants[what]);
        }
    }

    private void wokeTerms() {
        doc.says("of all sets of DAYS 0 to 7 on which he wakes by himself, in place of those that are told of these");
        OneDecision told = doc.in("realm 0 0;question 1 0 0;question 2 7 7;question 4 8 8;wakes 0;wakes 7;wakes 8");
        dueWoke(told, -1, 9, 3, 64, 0, 0);
        dueWoke(told, -1, 9, 2, 64, 1, 1);
        dueWoke(told, -1, 9, 1, 64, 128, 128);
        dueWoke(told, -1, 9, 0, 64, 129, 129);
        dueWoke(told, -1, 9, 7, 0, -2, 0);
        dueWoke(told, -1, 9, 4, 0, -2, 0);

        doc.says("from the begin on, by a RULE (or NONE), all as the text told it, GAINED is so much behind n DAYS (1 to 60)");
        OneDecision last = doc.in("realm 0 0;question 5 0 0;question 6 59 59");
        dueWoke(last, -1, 1, 5, 128, 0, 0);
        dueWoke(last, -1, 59, 5, 128, 0, 0);
        dueWoke(last, -1, 60, 5, 0, -2, 0);
        dueWoke(last, -1, 60, 11, 128, 0, 0);
        for (int n : Sentences.outside(1, 60)) {
            dueWoke(last, -1, n, 0, -3, -3, -3);
        }
        Texts.rule(last, "ask 1 if day>0");
        last.tie(0, 1);
        last.grow(1, 9);
        last.egg();
        last.day();
        last.force(0);
        dueWoke(last, -1, 60, 11, 128, 0, 0);
        dueWoke(last, 0, 60, 6, 256, 0, 0);

        doc.says("how many; the least as bits; DAYS that are in all of them, as bits (0 without such)");
        OneDecision bits = doc.byRule(doc.in("realm 0 0;question 5 8 8"), "ask 1 if wasted=8");
        dueWoke(bits, 0, 9, 5, 1, 255, 255);
        dueWoke(bits, 0, 9, 0, 255, 0, 0);
        dueWoke(bits, 0, 9, 1, 0, -2, 0);
        OneDecision either = doc.byRule(doc.in("realm 0 0;question 5 3 3"), "ask 1 if wasted=2");
        dueWoke(either, 0, 4, 5, 3 * 16, 3, 0);
        dueWoke(doc.in("realm 0 0"), -1, 1, 0, 256, 0, 0);
    }

    private void woke() {
        doc.says("WOKE (rule NONE: none; gained 0 to 99999) what 0: how many, 1: the least (-2: there is none), 2: in all. -3 without these, or a REALM.");
        OneDecision x = doc.in("realm 0 0");
        Texts.rule(x, "ask 1");
        dueWoke(x, 0, 1, 0, 256, 0, 0);
        dueWoke(x, -1, 1, 99999, 0, -2, 0);
        for (int rule : Sentences.outside(-1, 0)) {
            dueWoke(x, rule, 1, 0, -3, -3, -3);
        }
        for (int gained : Sentences.outside(0, 99999)) {
            dueWoke(x, -1, 1, gained, -3, -3, -3);
        }
        for (int what : Sentences.outside(0, 2)) {
            doc.due("woke(-1, 1, 0, " + what + ")", x.woke(-1, 1, 0, what), -3);
        }
        dueWoke(new OneDecision(), -1, 1, 0, -3, -3, -3);
    }

    private void note() {
        doc.says("NOTES 0 to 9, told: on the n-th DAY of all (0 to 60) a QUESTION was put to him, or none (NONE).");
        OneDecision x = doc.in("realm 0 0;question 5 0 0;question 6 60 60");
        doc.due("on DAY 0", x.note(0, 0), 1);
        doc.due("on DAY 60", x.note(60, 1), 2);
        doc.due("none", x.note(59, -1), 3);
        doc.due("they are so", x.ruled(0), 1);
        for (int i = 4; i <= 10; i++) {
            doc.due("once more", x.note(0, 0), i);
        }
        doc.due("they are so", x.ruled(0), 1);
        doc.due("an eleventh", x.note(0, 0), -2);
        doc.due("none on DAY 60", doc.in("realm 0 0;question 6 60 60").note(60, -1), 1);

        doc.says("A NOTE (n NONE: there are none then, 0): how many; -2, and nothing happens, without these (question NONE: none), or a REALM, or if there are 10.");
        int[] before = Sentences.sight(x);
        doc.due("if there are 10", x.note(1, -1), -2);
        doc.stays(x, before);
        doc.due("none then", x.note(-1, 5), 0);
        doc.due("NOTES", x.count(13), 0);
        doc.due("none then", x.note(-1, Integer.MIN_VALUE), 0);
        for (int n : new int[] {Integer.MIN_VALUE, -2, 61, MAX}) {
            doc.due("note(" + n + ", 0)", x.note(n, 0), -2);
        }
        for (int q : Sentences.outside(-1, 1)) {
            doc.due("note(0, " + q + ")", x.note(0, q), -2);
        }
        doc.due("NOTES", x.count(13), 0);
        OneDecision none = new OneDecision();
        doc.due("without a REALM", none.note(0, -1), -2);
        doc.due("without a REALM", none.note(0, 0), -2);
        doc.due("NOTES", none.count(13), 0);
        doc.due("there are none then", none.note(-1, -1), 0);
    }

    private void dueRuled(OneDecision x, int many, int first) {
        doc.due("ruled(0)", x.ruled(0), many);
        doc.due("ruled(1)", x.ruled(1), first);
    }

    private void ruled() {
        doc.says("which of the RULES, and of none, so that from the begin on, all as the text told it, all NOTES are so: how many; the first (none ahead of 0, told as NONE)");
        OneDecision x = doc.in("realm 0 0;question 5 0 1;question 9 0 2;wakes 3");
        dueRuled(x, 1, -1);
        for (int i = 0; i < 6; i++) {
            Texts.rule(x, i < 3 ? "ask worth" : "ask 9-question if day>" + (i - 3) + ";ask 0");
        }
        dueRuled(x, 7, -1);
        x.note(3, -1);
        dueRuled(x, 7, -1);
        x.note(0, 1);
        dueRuled(x, 3, 0);
        x.grow(0, 99);
        x.tie(0, 1);
        x.egg();
        x.day();
        x.force(5);
        dueRuled(x, 3, 0);
        x.note(-1, 0);
        x.note(0, -1);
        dueRuled(x, 3, 3);
        x.note(1, -1);
        dueRuled(x, 2, 4);
        x.note(2, -1);
        dueRuled(x, 1, 5);
        x.note(2, 1);
        dueRuled(x, 0, -2);

        doc.says("RULED what 0: how many, 1: the first (NONE: none; -2: there is none such). -3 for others, or without a REALM.");
        dueRuled(x, 0, -2);
        for (int what : Sentences.outside(0, 1)) {
            doc.due("ruled(" + what + ")", x.ruled(what), -3);
        }
        dueRuled(new OneDecision(), -3, -3);
        OneDecision rules = doc.byRule(new OneDecision(), "ask 1");
        dueRuled(rules, -3, -3);
    }

    private void dueLook(OneDecision x, int day, int alike) {
        doc.due("look(0)", x.look(0), day);
        doc.due("look(1)", x.look(1), alike);
    }

    private void look() {
        doc.says("LOOK: the DAY (0 to 60) by what was put to him on it these part best: the most alike are fewest, of several the least; how many.");
        OneDecision x = doc.in("realm 0 0;question 5 60 60");
        dueLook(x, 0, 1);
        Texts.rule(x, "ask 1");
        dueLook(x, 0, 2);
        Texts.rule(x, "ask 0");
        dueLook(x, 60, 2);
        Texts.rule(x, "ask 0");
        dueLook(x, 60, 2);
        x.note(60, 0);
        dueLook(x, 0, 2);
        OneDecision parts = doc.in("realm 0 0;question 5 0 2;question 6 0 2;question 7 0 2");
        Texts.rule(parts, "ask 1 if question=0 or day>0");
        Texts.rule(parts, "ask 1 if question=0 or day>0;ask question if day>0");
        Texts.rule(parts, "ask question if day>0;ask 1 if question=0");
        dueLook(parts, 1, 3);
        parts.note(1, 1);
        dueLook(parts, 0, 3);
        OneDecision most = doc.in("realm 0 0;question 5 0 0;question 6 0 0");
        Texts.rule(most, "ask question");
        Texts.rule(most, "ask worth");
        dueLook(most, 0, 2);
        OneDecision first = doc.in("realm 0 0;question 5 0 60;question 6 5 60");
        Texts.rule(first, "ask 1 if day>0");
        dueLook(first, 0, 1);

        doc.says("LOOK what 0: the DAY, 1: how many; -2: no RULE is so. NONE for others, or without a REALM.");
        first.note(0, 1);
        dueLook(first, -2, -2);
        for (int what : Sentences.outside(0, 1)) {
            doc.due("look(" + what + ")", first.look(what), -1);
            doc.due("look(" + what + ")", x.look(what), -1);
        }
        dueLook(new OneDecision(), -1, -1);
    }

    /** A draw of 100 the rest, told by the way he has an egg from this p on. */
    private int drawn(int x) {
        OneDecision one = doc.in("realm 0 0;question 5 0 0");
        one.seed(x);
        int p = 0;
        while (p <= 100 && one.reigns(1, 1, p, 0) == 5) {
            p++;
        }
        return p - 1;
    }

    private void draws() {
        doc.says("DRAWS: x (0 to 2147483647; 0 at first) becomes x * 1103515245 + 12345, of 2147483648 the rest; a DRAW is x / 65536.");
        doc.due("0 at first", new OneDecision().count(15), 0);
        for (int x : new int[] {0, 1, 12345, 65535, 1 << 30, MAX - 1, MAX}) {
            long next = BigInteger.valueOf(x).multiply(BigInteger.valueOf(1103515245)).add(BigInteger.valueOf(12345))
                    .mod(BigInteger.ONE.shiftLeft(31)).longValue();
            doc.due("the DRAW behind " + x, drawn(x), next / 65536 % 100);
        }
    }

    private void seed() {
        doc.says("x becomes a number: what it was; NONE, and nothing happens, below 0.");
        OneDecision x = new OneDecision();
        doc.due("seed(MAX)", x.seed(MAX), 0);
        doc.due("seed(-1)", x.seed(-1), -1);
        doc.due("seed(MIN)", x.seed(Integer.MIN_VALUE), -1);
        doc.due("x", x.count(15), MAX);
        doc.due("seed(0)", x.seed(0), MAX);
        doc.due("x", x.count(15), 0);
    }

    private void dueReigns(OneDecision x, int m, int n, int p, int gained, int lost) {
        doc.due("reigns(" + m + ", " + n + ", " + p + ", 0)", x.reigns(m, n, p, 0), gained);
        doc.due("reigns(" + m + ", " + n + ", " + p + ", 1)", x.reigns(m, n, p, 1), lost);
    }

    private void reignsTerms() {
        doc.says("REIGNS m times (1 to 10) n DAYS (1 to 60) from now on");
        dueReigns(doc.in("realm 0 0;question 5 0 0;question 6 0 0"), 1, 1, 0, 5, 6);
        dueReigns(doc.in("realm 0 0;question 5 0 0;question 6 0 0"), 10, 1, 0, 50, 60);
        dueReigns(lostOn(59), 1, 59, 0, 0, 0);
        dueReigns(lostOn(59), 10, 60, 0, 0, 50);
        OneDecision x = doc.in("realm 0 0;question 5 0 0;question 6 0 0");
        for (int m : Sentences.outside(1, 10)) {
            dueReigns(x, m, 1, 0, -1, -1);
        }
        for (int n : Sentences.outside(1, 60)) {
            dueReigns(x, 1, n, 0, -1, -1);
        }

        doc.says("ahead of each a DRAW mod 100: below p (0 to 100) he has an egg on it (as told, too)");
        // the draws behind 0, of 100 the rest: 0 68 88 17
        OneDecision two = doc.in("realm 0 0;question 5 0 0;question 6 1 1");
        dueReigns(two, 1, 1, 0, 5, 0);
        dueReigns(two, 1, 1, 1, 0, 5);
        dueReigns(two, 1, 2, 68, 6, 5);
        dueReigns(two, 1, 2, 69, 0, 11);
        dueReigns(two, 2, 2, 68, 6 + 5, 5 + 6);
        dueReigns(two, 2, 2, 100, 0, 22);
        for (int p : Sentences.outside(0, 100)) {
            dueReigns(two, 1, 1, p, -1, -1);
        }
        two.egg();
        dueReigns(two, 3, 2, 0, 18, 15);
        dueReigns(lostOn(0), 2, 1, 0, 0, 10);

        doc.says("what is GAINED; what is lost, in these, all together (x as it was)");
        OneDecision later = doc.in("realm 0 0;question 5 0 0;question 6 0 0;question 7 1 1;question 8 1 1");
        later.day();
        later.seed(12345);
        dueReigns(later, 3, 1, 0, 21, 24);
        dueReigns(later, 1, 1, 69, 0, 15);
        dueReigns(later, 1, 1, 69, 0, 15);
        doc.due("x", later.count(15), 12345);
    }

    private void reigns() {
        doc.says("REIGNS what 0: GAINED, 1: lost. NONE without these, or a REALM.");
        for (int what : Sentences.outside(0, 1)) {
            doc.due("reigns(1, 1, 0, " + what + ")", doc.in("realm 0 0").reigns(1, 1, 0, what), -1);
        }
        dueReigns(doc.in("realm 0 0"), 1, 1, 0, 0, 0);
        dueReigns(new OneDecision(), 1, 1, 0, -1, -1);
    }
}
