/** Promises 14 to 28: what is asked of the days to come, of those that were, and of drawn ones. */
public final class AskedPromisesTest {
    private static final Check CHECK = new Check();
    private static final String REALM = "realm 2 5;question 10 0 1;question 7 0 3;question 20 2 4;question 4 0 0;"
            + "alike 0 1;wakes 1";
    private static final int NO_BALANCE = -100000;

    private AskedPromisesTest() {
    }

    public static void main(String[] args) {
        ahead();
        fate();
        row();
        rowEdges();
        bind();
        bindSeveral();
        rescue();
        cover();
        today();
        waste();
        blame();
        woke();
        note();
        ruledAndLook();
        seed();
        reigns();
        nothingChanges();
        withoutRealm();
        CHECK.close();
    }

    private static void due(String what, long got, long want) {
        CHECK.due(what, got, want);
    }

    private static OneDecision in(String realm) {
        OneDecision x = new OneDecision();
        if (Texts.realm(x, realm) < 0) {
            due("realm " + realm, -1, 0);
        }
        return x;
    }

    private static void ahead() {
        OneDecision x = in(REALM);
        due("ahead(3, 0, 0)", x.ahead(3, 0, 0), 0);
        due("ahead(3, 1, 0)", x.ahead(3, 1, 0), 1);
        due("ahead(0, 1, 0)", x.ahead(0, 1, 0), 0);
        due("ahead(0, 2, 0)", x.ahead(0, 2, 0), 3);
        due("ahead(9, 0, 1)", x.ahead(9, 0, 1), 0);
        due("ahead(9, 4, 1)", x.ahead(9, 4, 1), 31);
        due("ahead(-7, 2, 2)", x.ahead(-7, 2, 2), 10);
        due("ahead(0, 4, 3)", x.ahead(0, 4, 3), 0);
        due("ahead(0, 5, 3)", x.ahead(0, 5, 3), 1);
        due("ahead(0, 100, 3)", x.ahead(0, 100, 3), 2);
        due("ahead(0, 101, 1)", x.ahead(0, 101, 1), -1);
        due("ahead(0, -1, 1)", x.ahead(0, -1, 1), -1);
        due("ahead(4, 1, 0)", x.ahead(4, 1, 0), -1);
        due("ahead(-1, 1, 0)", x.ahead(-1, 1, 0), -1);
        due("ahead(0, 1, 4)", x.ahead(0, 1, 4), -1);
        due("ahead(0, 1, -1)", x.ahead(0, 1, -1), -1);
        x.egg();
        due("with an egg", x.ahead(3, 1, 0), 3);
        due("with an egg the day alone", x.ahead(0, 3, 1), 7);
        x.undo();
        Texts.rule(x, "ask worth");
        x.force(0);
        due("by a RULE", x.ahead(1, 1, 0), 2);
        due("by a RULE", x.ahead(0, 3, 1), 13 + 20);
    }

    private static void fate() {
        OneDecision x = in(REALM);
        int[] days = {1, 2, 3, 0};
        int[] became = {3, 1, 1, 1};
        for (int q = 0; q < 4; q++) {
            due("fate(" + q + ", 0)", x.fate(q, 0), days[q]);
            due("fate(" + q + ", 1)", x.fate(q, 1), became[q]);
        }
        due("fate(4, 0)", x.fate(4, 0), -1);
        due("fate(-1, 0)", x.fate(-1, 0), -1);
        due("fate(0, 2)", x.fate(0, 2), -1);
        due("fate(0, -1)", x.fate(0, -1), -1);
        x.tie(0, 3);
        due("in a bundle", x.fate(0, 1), 2);
        due("in a bundle", x.fate(0, 0), 0);
        x.undo();
        x.day();
        due("answered", x.fate(3, 0), -1);
        due("the DAY, not from now", x.fate(1, 0), 2);
        x.day();
        due("lost", x.fate(0, 0), -1);
        due("this one the first", x.fate(1, 0), 2);
    }

    private static void row() {
        OneDecision x = in(REALM);
        int[][] wants = {{9, 0, -2, -2, -2}, {9, 0, -1, -2, -2}, {29, 0, -1, 2, -2}, {29, 0, -1, -1, 2}};
        for (int n = 1; n <= 4; n++) {
            for (int what = 0; what <= 4; what++) {
                due("row(" + n + ", " + what + ")", x.row(n, what), wants[n - 1][what]);
            }
        }
        Texts.rule(x, "ask 0");
        x.force(0);
        due("in place of the RULE", x.row(3, 0), 29);
        x.day();
        due("more than now", x.row(2, 0), -10 + 20);
        due("whom", x.row(2, 1), -1);
        due("whom", x.row(2, 2), 2);
    }

    private static void rowEdges() {
        OneDecision x = in("realm 0 0;question 5 0 0;question 6 0 0;question 0 0 3;wakes 0");
        due("below 0", x.row(1, 0), -11);
        due("WASTED", x.row(1, 1), -1);
        due("nothing to gain", x.row(4, 2), -1);
        due("row(0, 0)", x.row(0, 0), NO_BALANCE);
        due("row(5, 0)", x.row(5, 0), NO_BALANCE);
        due("row(1, 5)", x.row(1, 5), NO_BALANCE);
        due("row(1, -1)", x.row(1, -1), NO_BALANCE);
        OneDecision several = in("realm 0 0;question 5 0 9;question 5 0 9;question 5 0 9");
        due("of several the first", several.row(2, 1), 0);
        due("of several the first", several.row(2, 2), 1);
        due("none ahead", several.row(4, 1), -1);
        due("none ahead", several.row(4, 2), 0);
        several.egg();
        due("with an egg", several.row(2, 1), -1);
        due("with an egg", several.row(2, 0), 5);
    }

    private static void bind() {
        OneDecision x = in(REALM);
        int[][] wants = {{1, 9, 0, 3}, {3, 17, 1, 3}, {4, 36, 0, 3}};
        for (int[] want : wants) {
            for (int what = 0; what < 3; what++) {
                due("bind(" + want[0] + ", " + what + ")", x.bind(want[0], what), want[what + 1]);
            }
        }
        due("bind(0, 0)", x.bind(0, 0), NO_BALANCE);
        due("bind(61, 0)", x.bind(61, 0), NO_BALANCE);
        due("bind(1, 3)", x.bind(1, 3), NO_BALANCE);
        due("bind(1, -1)", x.bind(1, -1), NO_BALANCE);
        x.day();
        due("more than now, below 0", x.bind(1, 0), -10);
        due("none", x.bind(1, 1), -1);
    }

    private static void bindSeveral() {
        OneDecision none = in("realm 0 0;question 1 0 5;question 2 0 5");
        due("of several none", none.bind(1, 0), 1);
        due("of several none", none.bind(1, 1), -1);
        due("of several none", none.bind(1, 2), -1);
        OneDecision first = in("realm 0 9;question 10 0 0;question 10 0 0;question 10 0 0");
        due("the first one least", first.bind(1, 0), 9);
        due("the first one least", first.bind(1, 1), 0);
        due("then the second", first.bind(1, 2), 1);
        first.tie(0, 1);
        due("not those alike", first.bind(1, 1), 0);
        due("not those alike", first.bind(1, 2), 2);
        due("more than now", first.bind(1, 0), 28);
    }

    private static void rescue() {
        OneDecision x = in(REALM);
        due("rescue(1, 0)", x.rescue(1, 0), 0);
        due("rescue(1, 1)", x.rescue(1, 1), 0);
        due("rescue(2, 0)", x.rescue(2, 0), 1);
        due("rescue(2, 1)", x.rescue(2, 1), 1);
        due("rescue(60, 1)", x.rescue(60, 1), 1);
        due("rescue(0, 0)", x.rescue(0, 0), -1);
        due("rescue(61, 0)", x.rescue(61, 0), -1);
        due("rescue(1, 2)", x.rescue(1, 2), -1);
        due("rescue(1, -1)", x.rescue(1, -1), -1);
        OneDecision late = in("realm 0 0;question 0 1 1;wakes 1");
        due("by none is needed", late.rescue(1, 0), 0);
        due("by none", late.rescue(2, 0), -2);
        due("by none", late.rescue(2, 1), -2);
        late.day();
        due("by one", late.rescue(1, 0), 1);
        late.day();
        due("lost ahead is nothing", late.rescue(1, 0), 0);
        OneDecision three = in("realm 0 0;question 5 0 0;question 5 0 0;question 5 0 0");
        due("two of three", three.rescue(1, 0), 2);
        due("the least set", three.rescue(1, 1), 3);
        OneDecision eight = in("realm 0 0;wakes 0" + ";question 0 0 0".repeat(8));
        due("all eight", eight.rescue(1, 0), 8);
        due("all eight", eight.rescue(1, 1), 255);
        OneDecision star = in("realm 0 0;question 5 0 0;question 5 0 0;question 5 0 0;question 5 0 0;question 5 1 1;"
                + "alike 0 1;alike 0 2;alike 1 3;alike 1 2;alike 3 0;wakes 0;wakes 1");
        due("a later one is lost", star.rescue(2, 0), -2);
        due("with all alike", star.rescue(1, 0), 1);
        due("with all alike", star.rescue(1, 1), 1);
    }

    private static void cover() {
        OneDecision x = in(REALM);
        due("cover(0)", x.cover(0), 2);
        due("cover(1)", x.cover(1), 9);
        due("cover(2)", x.cover(2), -1);
        due("cover(-1)", x.cover(-1), -1);
        x.day();
        due("of OPEN ones", x.cover(0), 1);
        due("of OPEN ones", x.cover(1), 1);
        OneDecision star = in("realm 0 0;question 1 0 0;question 1 0 0;question 1 0 0;question 1 0 0;question 1 5 5;"
                + "alike 2 0;alike 2 1;alike 2 3");
        due("a star", star.cover(0), 1);
        due("a star", star.cover(1), 4);
        star.tie(4, 0);
        star.tie(4, 1);
        star.tie(2, 0);
        due("not by one that is not OPEN", star.cover(0), 2);
        due("not by one that is not OPEN", star.cover(1), 5);
        OneDecision eight = in("realm 0 0" + ";question 0 0 0".repeat(8));
        due("all eight", eight.cover(0), 8);
        due("all eight", eight.cover(1), 255);
        OneDecision none = in("realm 0 0");
        due("nothing OPEN", none.cover(0), 0);
        due("nothing OPEN", none.cover(1), 0);
    }

    private static void today() {
        OneDecision x = in(REALM);
        due("today(1)", x.today(1), 8);
        due("today(2)", x.today(2), 8);
        due("today(4)", x.today(4), 8);
        due("today(0)", x.today(0), NO_BALANCE);
        due("today(61)", x.today(61), NO_BALANCE);
        x.egg();
        due("with an egg", x.today(60), 0);
        OneDecision waits = in("realm 0 9;question 10 0 5;question 10 1 1;question 10 1 1;alike 0 1;alike 0 2");
        Texts.rule(waits, "ask bundle+1");
        waits.force(0);
        due("below 0", waits.today(2), 10 - 28);
    }

    private static void waste() {
        OneDecision x = in(REALM);
        due("waste(1, 0)", x.waste(1, 0), 0);
        due("waste(1, 1)", x.waste(1, 1), -4);
        due("waste(4, 0)", x.waste(4, 0), 1);
        due("waste(4, 1)", x.waste(4, 1), 21);
        due("waste(20, 0)", x.waste(20, 0), 1);
        due("waste(0, 0)", x.waste(0, 0), NO_BALANCE);
        due("waste(21, 0)", x.waste(21, 0), NO_BALANCE);
        due("waste(1, 2)", x.waste(1, 2), NO_BALANCE);
        due("waste(1, -1)", x.waste(1, -1), NO_BALANCE);
        x.day();
        due("from now on", x.waste(2, 0), 0);
        due("more than now", x.waste(2, 1), -3);
        OneDecision last = in("realm 0 0;question 5 0 0;question 6 1 1;question 4 2 2;question 9 3 3");
        due("the least cost", last.waste(4, 0), 2);
        due("the least cost", last.waste(4, 1), 5 + 6 - 4 + 9);
        last.egg();
        due("as he had one", last.waste(4, 0), 0);
        due("as he had one", last.waste(4, 1), -5 + 6 + 4 + 9);
    }

    private static void parts(String realm, int much, int... wants) {
        OneDecision x = in(realm);
        due("nothing is lost", x.blame(much, 0), 0);
        x.egg();
        x.day();
        for (int q = 0; q < wants.length; q++) {
            due("blame(" + much + ", " + q + ") in " + realm, x.blame(much, q), wants[q]);
        }
        due("no QUESTION", x.blame(much, wants.length), -1);
        due("no QUESTION", x.blame(much, -1), -1);
    }

    private static void blame() {
        parts("realm 0 0;question 10 0 0;question 10 0 0;question 10 0 0", 10, 4, 3, 3);
        parts("realm 0 0;question 10 0 0;question 10 0 0;question 10 0 0", 11, 4, 4, 3);
        parts("realm 0 0;question 1 0 0;question 2 0 0;question 4 0 0", 10, 1, 3, 6);
        parts("realm 0 0;question 1 0 0;question 2 0 0;question 4 0 0", 0, 0, 0, 0);
        parts("realm 0 0;question 0 0 0;question 0 0 1;question 0 0 0;question 0 0 0", 5, 2, 0, 2, 1);
        parts("realm 0 0;question 0 0 0;question 3 0 0;question 9 0 5", 9999, 0, 9999, 0);
        parts("realm 0 0;question 99 0 0;question 98 0 0;question 97 0 0", 9999, 3367, 3333, 3299);
        OneDecision x = in("realm 0 0;question 1 0 0");
        due("blame(10000, 0)", x.blame(10000, 0), -1);
        due("blame(-1, 0)", x.blame(-1, 0), -1);
    }

    private static void dueWoke(OneDecision x, int[] asked, int... wants) {
        for (int what = 0; what < 3; what++) {
            due("woke(" + asked[0] + ", " + asked[1] + ", " + asked[2] + ", " + what + ")",
                    x.woke(asked[0], asked[1], asked[2], what), wants[what]);
        }
    }

    private static void woke() {
        OneDecision x = in("realm 0 0;question 4 0 0;question 7 1 1;question 30 9 9;question 50 10 10;wakes 0;wakes 9");
        dueWoke(x, new int[] {-1, 2, 11}, 64, 0, 0);
        dueWoke(x, new int[] {-1, 2, 4}, 64, 2, 2);
        dueWoke(x, new int[] {-1, 2, 7}, 64, 1, 1);
        dueWoke(x, new int[] {-1, 2, 0}, 64, 3, 3);
        dueWoke(x, new int[] {-1, 2, 5}, 0, -2, 0);
        dueWoke(x, new int[] {-1, 1, 4}, 128, 0, 0);
        dueWoke(x, new int[] {-1, 11, 57}, 64, 1, 1);
        dueWoke(x, new int[] {-1, 60, 87}, 0, -2, 0);
        Texts.rule(x, "ask 1 if wasted>6");
        // the told waking on DAY 9 is the seventh
        dueWoke(x, new int[] {0, 11, 50}, 37, 63, 0);
        dueWoke(x, new int[] {0, 60, 0}, 219, 0, 0);
        x.grow(1, 5);
        x.egg();
        x.tie(0, 1);
        dueWoke(x, new int[] {-1, 2, 11}, 64, 0, 0);
        due("woke(1, 1, 0, 0)", x.woke(1, 1, 0, 0), -3);
        due("woke(-2, 1, 0, 0)", x.woke(-2, 1, 0, 0), -3);
        due("woke(-1, 0, 0, 0)", x.woke(-1, 0, 0, 0), -3);
        due("woke(-1, 61, 0, 0)", x.woke(-1, 61, 0, 0), -3);
        due("woke(-1, 1, -1, 0)", x.woke(-1, 1, -1, 0), -3);
        due("woke(-1, 1, 100000, 0)", x.woke(-1, 1, 100000, 0), -3);
        due("woke(-1, 1, 99999, 0)", x.woke(-1, 1, 99999, 0), 0);
        due("woke(-1, 1, 0, 3)", x.woke(-1, 1, 0, 3), -3);
        due("woke(-1, 1, 0, -1)", x.woke(-1, 1, 0, -1), -3);
        dueWoke(in("realm 0 0"), new int[] {-1, 60, 0}, 256, 0, 0);
        dueWoke(in("realm 0 0;question 1 7 7"), new int[] {-1, 8, 0}, 128, 128, 128);
    }

    private static void note() {
        OneDecision x = in("realm 0 0;question 1 0 0;question 1 0 0");
        due("note(61, 0)", x.note(61, 0), -2);
        due("note(-2, 0)", x.note(-2, 0), -2);
        due("note(0, 2)", x.note(0, 2), -2);
        due("note(0, -2)", x.note(0, -2), -2);
        due("NOTES", x.count(13), 0);
        for (int i = 1; i <= 10; i++) {
            due("note " + i, x.note(i == 10 ? 60 : i, i == 10 ? -1 : 1), i);
        }
        due("an eleventh", x.note(0, 0), -2);
        due("NOTES", x.count(13), 10);
        due("none then", x.note(-1, 99), 0);
        due("NOTES", x.count(13), 0);
        due("none then", x.note(-1, -1), 0);
        due("no ACTS", x.count(14), 0);
    }

    private static void dueRuled(OneDecision x, int many, int first, int day, int alike) {
        due("ruled(0)", x.ruled(0), many);
        due("ruled(1)", x.ruled(1), first);
        due("look(0)", x.look(0), day);
        due("look(1)", x.look(1), alike);
    }

    private static void ruledAndLook() {
        OneDecision x = in("realm 0 0;question 4 0 3;question 7 0 2;question 9 0 4;wakes 5");
        dueRuled(x, 1, -1, 0, 1);
        Texts.rule(x, "ask worth");
        Texts.rule(x, "ask 10-question");
        Texts.rule(x, "ask 10-worth");
        dueRuled(x, 4, -1, 0, 2);
        x.note(5, -1);
        x.note(60, -1);
        dueRuled(x, 4, -1, 0, 2);
        x.note(1, 1);
        dueRuled(x, 3, 0, 0, 2);
        x.grow(0, 99);
        x.egg();
        x.day();
        dueRuled(x, 3, 0, 0, 2);
        x.note(0, 0);
        dueRuled(x, 2, 1, 0, 2);
        Texts.rule(x, "ask 10-question if day=0;ask worth");
        dueRuled(x, 2, 1, 0, 2);
        x.note(-1, 0);
        x.note(0, 0);
        dueRuled(x, 3, 1, 1, 2);
        x.note(1, 2);
        dueRuled(x, 1, 3, 0, 1);
        x.note(1, -1);
        dueRuled(x, 0, -2, -2, -2);
        due("ruled(2)", x.ruled(2), -3);
        due("ruled(-1)", x.ruled(-1), -3);
        due("look(2)", x.look(2), -1);
        due("look(-1)", x.look(-1), -1);
    }

    private static void seed() {
        OneDecision x = new OneDecision();
        due("seed(5)", x.seed(5), 0);
        due("seed(-1)", x.seed(-1), -1);
        due("seed(MIN)", x.seed(Integer.MIN_VALUE), -1);
        due("x", x.count(15), 5);
        due("seed(MAX)", x.seed(Integer.MAX_VALUE), 5);
        due("seed(0)", x.seed(0), Integer.MAX_VALUE);
    }

    private static void reigns() {
        // the draws behind 0, of 100 the rest: 0 68 88 17 98 27
        OneDecision x = in("realm 0 0;question 5 0 0;question 7 1 1");
        int[][] wants = {{1, 1, 50, 0, 5}, {1, 2, 50, 7, 5}, {2, 2, 50, 12, 12}, {3, 2, 50, 17, 19}, {10, 2, 0, 120, 0},
            {10, 2, 100, 0, 120}, {1, 2, 1, 7, 5}, {1, 2, 68, 7, 5}, {1, 2, 69, 0, 12}, {1, 60, 50, 7, 5}};
        for (int[] want : wants) {
            due("reigns(" + want[0] + ", " + want[1] + ", " + want[2] + ", 0)",
                    x.reigns(want[0], want[1], want[2], 0), want[3]);
            due("reigns(" + want[0] + ", " + want[1] + ", " + want[2] + ", 1)",
                    x.reigns(want[0], want[1], want[2], 1), want[4]);
        }
        due("x as it was", x.count(15), 0);
        x.seed(12345);
        due("behind another x", x.reigns(1, 1, 68, 0), 5);
        due("behind another x", x.reigns(1, 1, 69, 0), 0);
        x.seed(Integer.MAX_VALUE);
        due("behind the greatest x: 15929", x.reigns(1, 1, 29, 0), 5);
        due("behind the greatest x: 15929", x.reigns(1, 1, 30, 0), 0);
        x.egg();
        due("as told, too", x.reigns(1, 1, 0, 1), 5);
        x.day();
        due("in these", x.reigns(2, 1, 0, 0), 14);
        due("in these", x.reigns(2, 1, 0, 1), 0);
        due("reigns(0, 1, 0, 0)", x.reigns(0, 1, 0, 0), -1);
        due("reigns(11, 1, 0, 0)", x.reigns(11, 1, 0, 0), -1);
        due("reigns(1, 0, 0, 0)", x.reigns(1, 0, 0, 0), -1);
        due("reigns(1, 61, 0, 0)", x.reigns(1, 61, 0, 0), -1);
        due("reigns(1, 1, -1, 0)", x.reigns(1, 1, -1, 0), -1);
        due("reigns(1, 1, 101, 0)", x.reigns(1, 1, 101, 0), -1);
        due("reigns(1, 1, 0, 2)", x.reigns(1, 1, 0, 2), -1);
        due("reigns(1, 1, 0, -1)", x.reigns(1, 1, 0, -1), -1);
        OneDecision wakes = in("realm 0 0;question 5 0 0;wakes 0");
        due("as told, too", wakes.reigns(3, 1, 0, 1), 15);
    }

    private static void nothingChanges() {
        OneDecision x = in(REALM);
        Texts.rule(x, "ask worth");
        x.force(0);
        x.day();
        x.egg();
        x.ahead(1, 50, 1);
        x.fate(2, 0);
        x.row(4, 1);
        x.bind(60, 1);
        x.rescue(60, 1);
        x.cover(1);
        x.today(60);
        x.waste(20, 0);
        x.blame(5, 3);
        x.woke(0, 60, 13, 0);
        x.ruled(0);
        x.look(0);
        x.reigns(10, 60, 50, 0);
        int[] wants = {2, 5, 4, 1, 0, 1, 0, 0, 13, 4, 0, 1, 1, 0, 2, 0, 0};
        for (int what = 0; what < wants.length; what++) {
            due("count(" + what + ") stays", x.count(what), wants[what]);
        }
        due("alike stays", x.question(0, 5), 2);
    }

    private static void withoutRealm() {
        OneDecision x = new OneDecision();
        due("ahead", x.ahead(0, 1, 1), -1);
        due("fate", x.fate(0, 0), -1);
        due("row", x.row(1, 0), NO_BALANCE);
        due("row, no such DAY", x.row(1, 2), NO_BALANCE);
        due("bind", x.bind(1, 0), NO_BALANCE);
        due("rescue", x.rescue(1, 0), -1);
        due("cover", x.cover(0), -1);
        due("today", x.today(1), NO_BALANCE);
        due("waste", x.waste(1, 0), NO_BALANCE);
        due("blame", x.blame(0, 0), -1);
        due("woke", x.woke(-1, 1, 0, 0), -3);
        due("note", x.note(0, -1), -2);
        due("no NOTES", x.note(-1, 0), 0);
        due("ruled", x.ruled(0), -3);
        due("look", x.look(0), -1);
        due("reigns", x.reigns(1, 1, 0, 0), -1);
    }
}
