import java.util.Arrays;

/** A king who decides one question a day, in a realm that is told in a language, by hand or by a rule. */
public final class OneDecision {
    public static final int NONE = -1;

    private static final int NO_SUCH = -2;
    private static final int NO_ANSWER = -3;
    private static final int NO_BALANCE = -100000;
    private static final int MOST_QUESTIONS = 8;
    private static final int MOST_RULES = 6;
    private static final int MOST_IMAGES = 4;
    private static final int MOST_SUM = 99999;
    private static final int MOST_WORTH = 999;
    private static final int MOST_DAY = 999;
    private static final int LAST_TOLD_DAY = 60;
    private static final int TOLD_DAYS = LAST_TOLD_DAY + 1;

    private final Text tape = new Text();
    private final RuleReader ruleReader = new RuleReader();
    private final Rule[] rules = new Rule[MOST_RULES];
    private int ruleCount;
    private final Image now = new Image();
    private final Image[] images = new Image[MOST_IMAGES];
    private final Trial trial = new Trial();
    private final RowSearch rowSearch = new RowSearch();
    private final WakeSearch wakeSearch = new WakeSearch();
    /** What none, and each rule behind it, puts to the king on each day that can be told. */
    private final int[] puts = new int[(MOST_RULES + 1) * TOLD_DAYS];

    public OneDecision() {
        ruleCount = 0;
    }

    public int feed(int a, int b, int c, int d, int e) {
        if (tape.length + Text.FED > Text.MOST_BYTES) {
            return NONE;
        }
        tape.add(a);
        tape.add(b);
        tape.add(c);
        tape.add(d);
        tape.add(e);
        return tape.length;
    }

    public int end(int n) {
        if (n < 0 || n > tape.length) {
            return NONE;
        }
        tape.length = n;
        return n;
    }

    public int realm() {
        tape.split();
        Realm told = new Realm();
        told.readFrom(tape);
        tape.length = 0;
        if (tape.fault != 0) {
            return -2 - tape.fault;
        }
        now.begin(told);
        return told.questions;
    }

    public int rule() {
        if (ruleCount >= MOST_RULES) {
            return NONE;
        }
        tape.split();
        Rule told = ruleReader.read(tape);
        tape.length = 0;
        if (tape.fault != 0) {
            return -2 - tape.fault;
        }
        rules[ruleCount] = told;
        ruleCount++;
        return ruleCount - 1;
    }

    public int force(int rule) {
        if (!isRuleOrNone(rule)) {
            return NO_SUCH;
        }
        int before = now.inForce;
        now.inForce = rule;
        return before;
    }

    public int question(int question, int what) {
        if (!isQuestion(question)) {
            return NONE;
        }
        State state = now.state;
        switch (what) {
            case 0:
                return state.worth[question];
            case 1:
                return state.realm.from[question];
            case 2:
                return state.realm.last[question];
            case 3:
                return state.becameOf(question);
            case 4:
                return state.isOpen(question) ? 1 : 0;
            case 5:
                return state.alike[question];
            case 6:
                return state.isOpen(question) ? state.brings(question, state.openSet()) : 0;
            default:
                return NONE;
        }
    }

    public int day() {
        State state = now.state;
        if (!state.realm.told || state.day >= MOST_DAY) {
            return NO_SUCH;
        }
        now.past.push(state);
        trial.start(state, ruleInForce());
        int put = trial.passDay();
        state.copyFrom(trial.state);
        return put;
    }

    public int use(int question) {
        State state = now.state;
        if (state.kept < 1 || !state.isOpen(question)) {
            return NONE;
        }
        now.past.push(state);
        state.kept--;
        return state.answer(question);
    }

    public int egg() {
        State state = now.state;
        if (!state.realm.told || state.hadEgg) {
            return NONE;
        }
        now.past.push(state);
        state.hadEgg = true;
        return state.day;
    }

    public int tie(int one, int other) {
        if (!isQuestion(one) || !isQuestion(other) || one == other) {
            return NONE;
        }
        now.past.push(now.state);
        now.state.tieOrCut(one, other);
        return now.state.areAlike(one, other) ? 1 : 0;
    }

    public int grow(int question, int more) {
        State state = now.state;
        if (!isQuestion(question) || state.becameOf(question) != 0 || more < 1 || more > 99) {
            return NONE;
        }
        now.past.push(state);
        state.worth[question] = Math.min(MOST_WORTH, state.worth[question] + more);
        return state.worth[question];
    }

    public int undo() {
        if (now.past.size < 1) {
            return NO_SUCH;
        }
        now.past.pop(now.state);
        return now.past.size;
    }

    public int ahead(int question, int n, int what) {
        boolean asked = isTold() && isWithin(n, 0, 100) && isWithin(what, 0, 3);
        if (!asked || (what == 0 && !isQuestion(question))) {
            return NONE;
        }
        trial.start(now.state, ruleInForce());
        trial.passDays(n);
        switch (what) {
            case 0:
                return trial.state.becameOf(question);
            case 1:
                return trial.state.gained;
            case 2:
                return trial.state.lost;
            default:
                return trial.state.kept;
        }
    }

    public int fate(int question, int what) {
        if (!isQuestion(question) || now.state.becameOf(question) != 0 || !isWithin(what, 0, 1)) {
            return NONE;
        }
        trial.start(now.state, ruleInForce());
        for (int i = 0; i < 100; i++) {
            int today = trial.state.day;
            trial.passDay();
            int became = trial.state.becameOf(question);
            if (became != 0) {
                return what == 0 ? today : became;
            }
        }
        return NO_SUCH;
    }

    public int row(int n, int what) {
        if (!isTold() || !isWithin(n, 1, RowSearch.MOST_DAYS) || !isWithin(what, 0, RowSearch.MOST_DAYS)) {
            return NO_BALANCE;
        }
        if (what > n) {
            return NO_SUCH;
        }
        rowSearch.find(now.state, n);
        return what == 0 ? rowSearch.bestBalance - now.state.balance() : rowSearch.best[what - 1];
    }

    public int bind(int n, int what) {
        if (!isTold() || !isWithin(n, 1, 60) || !isWithin(what, 0, 2)) {
            return NO_BALANCE;
        }
        State state = now.state;
        trial.start(state, ruleInForce());
        int most = trial.balanceBehind(n);
        int first = NONE;
        int second = NONE;
        for (int one = 0; one < state.realm.questions; one++) {
            for (int other = one + 1; other < state.realm.questions; other++) {
                if (!state.areAlike(one, other)) {
                    trial.start(state, ruleInForce());
                    trial.state.tieOrCut(one, other);
                    int balance = trial.balanceBehind(n);
                    if (balance > most) {
                        most = balance;
                        first = one;
                        second = other;
                    }
                }
            }
        }
        if (what == 0) {
            return most - state.balance();
        }
        return what == 1 ? first : second;
    }

    public int rescue(int n, int what) {
        if (!isTold() || !isWithin(n, 1, 60) || !isWithin(what, 0, 1)) {
            return NONE;
        }
        int open = now.state.openSet();
        int best = NO_SUCH;
        int fewest = MOST_QUESTIONS + 1;
        for (int set = 0; set <= open; set++) {
            int size = Integer.bitCount(set);
            if ((set & ~open) == 0 && size < fewest && rescuesAll(set, n)) {
                best = set;
                fewest = size;
            }
        }
        return what == 1 || best == NO_SUCH ? best : fewest;
    }

    public int cover(int what) {
        if (!isTold() || !isWithin(what, 0, 1)) {
            return NONE;
        }
        int open = now.state.openSet();
        int best = open;
        int fewest = MOST_QUESTIONS + 1;
        for (int set = 0; set <= open; set++) {
            int size = Integer.bitCount(set);
            if ((set & ~open) == 0 && size < fewest && now.state.covers(set, open)) {
                best = set;
                fewest = size;
            }
        }
        return what == 0 ? fewest : best;
    }

    public int today(int n) {
        if (!isTold() || !isWithin(n, 1, 60)) {
            return NO_BALANCE;
        }
        trial.start(now.state, ruleInForce());
        int asItIs = trial.balanceBehind(n);
        return asItIs - balanceWithEgg(0, n);
    }

    public int waste(int n, int what) {
        if (!isTold() || !isWithin(n, 1, 20) || !isWithin(what, 0, 1)) {
            return NO_BALANCE;
        }
        int which = 0;
        int most = balanceWithEgg(0, n);
        for (int i = 1; i < n; i++) {
            int balance = balanceWithEgg(i, n);
            if (balance > most) {
                most = balance;
                which = i;
            }
        }
        return what == 0 ? which : most - now.state.balance();
    }

    public int blame(int much, int question) {
        if (!isQuestion(question) || !isWithin(much, 0, 9999)) {
            return NONE;
        }
        State state = now.state;
        if (!state.isLost(question)) {
            return 0;
        }
        int total = state.lostWeight();
        if (total < 1) {
            return 0;
        }
        int left = much;
        int ahead = 0;
        int mine = much * state.weight(question) % total;
        for (int i = 0; i < state.realm.questions; i++) {
            if (state.isLost(i)) {
                left -= much * state.weight(i) / total;
                int rest = much * state.weight(i) % total;
                ahead += rest > mine || (rest == mine && i < question) ? 1 : 0;
            }
        }
        return much * state.weight(question) / total + (ahead < left ? 1 : 0);
    }

    public int woke(int rule, int n, int gained, int what) {
        boolean asked = isTold() && isRuleOrNone(rule) && isWithin(n, 1, 60);
        if (!asked || !isWithin(gained, 0, MOST_SUM) || !isWithin(what, 0, 2)) {
            return NO_ANSWER;
        }
        trial.startAnew(now.state.realm, ruleOrNull(rule));
        wakeSearch.find(trial, n, gained);
        if (wakeSearch.found == 0) {
            return what == 1 ? NO_SUCH : 0;
        }
        switch (what) {
            case 0:
                return wakeSearch.found;
            case 1:
                return wakeSearch.least;
            default:
                return wakeSearch.inAll;
        }
    }

    public int note(int n, int question) {
        if (n == NONE) {
            now.notes.size = 0;
            return 0;
        }
        boolean put = question == NONE || isQuestion(question);
        if (!isTold() || !isWithin(n, 0, LAST_TOLD_DAY) || !put || now.notes.isFull()) {
            return NO_SUCH;
        }
        now.notes.add(n, question);
        return now.notes.size;
    }

    public int ruled(int what) {
        if (!isTold() || !isWithin(what, 0, 1)) {
            return NO_ANSWER;
        }
        int fitting = fittingRules();
        if (what == 0) {
            return Integer.bitCount(fitting);
        }
        for (int i = 0; i <= ruleCount; i++) {
            if ((fitting >> i & 1) != 0) {
                return i - 1;
            }
        }
        return NO_SUCH;
    }

    public int look(int what) {
        if (!isTold() || !isWithin(what, 0, 1)) {
            return NONE;
        }
        int fitting = fittingRules();
        if (fitting == 0) {
            return NO_SUCH;
        }
        int best = 0;
        int fewest = mostAlikeOn(0, fitting);
        for (int day = 1; day < TOLD_DAYS; day++) {
            int alike = mostAlikeOn(day, fitting);
            if (alike < fewest) {
                fewest = alike;
                best = day;
            }
        }
        return what == 0 ? best : fewest;
    }

    public int seed(int x) {
        if (x < 0) {
            return NONE;
        }
        int before = now.x;
        now.x = x;
        return before;
    }

    public int reigns(int m, int n, int p, int what) {
        boolean asked = isTold() && isWithin(m, 1, 10) && isWithin(n, 1, 60);
        if (!asked || !isWithin(p, 0, 100) || !isWithin(what, 0, 1)) {
            return NONE;
        }
        int x = now.x;
        int all = 0;
        for (int i = 0; i < m; i++) {
            trial.start(now.state, ruleInForce());
            for (int j = 0; j < n; j++) {
                x = drawnBehind(x);
                if (x / 65536 % 100 < p) {
                    trial.state.hadEgg = true;
                }
                trial.passDay();
            }
            all += what == 0 ? trial.state.gained - now.state.gained : trial.state.lost - now.state.lost;
        }
        return all;
    }

    public int count(int what) {
        State state = now.state;
        switch (what) {
            case 0:
                return state.realm.keeps;
            case 1:
                return state.realm.half;
            case 2:
                return state.realm.questions;
            case 3:
                return ruleCount;
            case 4:
                return now.inForce;
            case 5:
                return state.day;
            case 6:
                return state.openSet();
            case 7:
                return state.kept;
            case 8:
                return state.gained;
            case 9:
                return state.lost;
            case 10:
                return state.wasted;
            case 11:
                return state.hadEgg ? 1 : 0;
            case 12:
                return state.wakesByHimself() ? 1 : 0;
            case 13:
                return now.notes.size;
            case 14:
                return now.past.size;
            case 15:
                return now.x;
            case 16:
                return tape.length;
            default:
                return NONE;
        }
    }

    public int image(int k) {
        if (!isWithin(k, 0, MOST_IMAGES - 1)) {
            return NONE;
        }
        if (images[k] == null) {
            images[k] = new Image();
        }
        images[k].copyFrom(now);
        return now.state.day;
    }

    public int back(int k) {
        if (!isWithin(k, 0, MOST_IMAGES - 1) || images[k] == null) {
            return NONE;
        }
        now.copyFrom(images[k]);
        return now.state.day;
    }

    private static boolean isWithin(int number, int least, int most) {
        return number >= least && number <= most;
    }

    private boolean isTold() {
        return now.state.realm.told;
    }

    private boolean isQuestion(int question) {
        return now.state.realm.has(question);
    }

    private boolean isRuleOrNone(int rule) {
        return rule >= NONE && rule < ruleCount;
    }

    private Rule ruleInForce() {
        return ruleOrNull(now.inForce);
    }

    private Rule ruleOrNull(int rule) {
        return rule >= 0 && rule < ruleCount ? rules[rule] : null;
    }

    private int balanceWithEgg(int when, int n) {
        trial.start(now.state, ruleInForce());
        trial.passDays(when);
        trial.state.hadEgg = true;
        return trial.balanceBehind(n - when);
    }

    private boolean rescuesAll(int set, int n) {
        trial.start(now.state, ruleInForce());
        for (int i = 0; i < MOST_QUESTIONS; i++) {
            if ((set >> i & 1) != 0 && trial.state.isOpen(i)) {
                trial.state.answer(i);
            }
        }
        int lostBefore = now.state.lostSet;
        for (int i = 0; i < n && trial.state.lostSet == lostBefore; i++) {
            trial.passDay();
        }
        return trial.state.lostSet == lostBefore;
    }

    /** As bits, none the lowest, by which all notes are so; each one's puts stand in its part of the row then. */
    private int fittingRules() {
        int fitting = 0;
        for (int i = 0; i <= ruleCount; i++) {
            trial.startAnew(now.state.realm, ruleOrNull(i - 1));
            int begin = i * TOLD_DAYS;
            for (int day = 0; day < TOLD_DAYS; day++) {
                puts[begin + day] = trial.passDay();
            }
            if (now.notes.areSo(puts, begin)) {
                fitting |= 1 << i;
            }
        }
        return fitting;
    }

    private int mostAlikeOn(int day, int fitting) {
        int most = 0;
        for (int i = 0; i <= ruleCount; i++) {
            int alike = 0;
            for (int j = 0; j <= ruleCount; j++) {
                boolean both = (fitting >> i & fitting >> j & 1) != 0;
                if (both && puts[i * TOLD_DAYS + day] == puts[j * TOLD_DAYS + day]) {
                    alike++;
                }
            }
            most = Math.max(most, alike);
        }
        return most;
    }

    private static int drawnBehind(int x) {
        return (int) ((x * 1103515245L + 12345L) % 2147483648L);
    }

    /** The tape, and its text as a row of tokens with a fault, if one was met. */
    private static final class Text {
        static final int MOST_BYTES = 400;
        static final int FED = 20;
        static final int MOST_DIGITS = 5;

        static final int CANNOT_STAND = 0;
        static final int NOT_AS_TOLD = 1;
        static final int TOO_DEEP = 2;
        static final int VALUE_TOO_MANY = 3;
        static final int CLAUSE_TOO_MANY = 4;

        /** Its order is that of the words' numbers below; the first thirteen are the values of a rule. */
        static final String WORDS =
                "question worth from last left bundle brings open kept gained lost wasted day realm alike wakes ask if and or not";
        static final int QUESTION = 0;
        static final int WORTH = 1;
        static final int FROM = 2;
        static final int LAST = 3;
        static final int LEFT = 4;
        static final int BUNDLE = 5;
        static final int BRINGS = 6;
        static final int OPEN = 7;
        static final int KEPT = 8;
        static final int GAINED = 9;
        static final int LOST = 10;
        static final int WASTED = 11;
        static final int DAY = 12;
        static final int REALM = 13;
        static final int ALIKE = 14;
        static final int WAKES = 15;
        static final int ASK = 16;
        static final int IF = 17;
        static final int AND = 18;
        static final int OR = 19;
        static final int NOT = 20;

        /** A sign's token is its byte, which is above every word's number. */
        static final String SIGNS = "+-*/%<=>[];";
        static final int AT_MOST = 256;
        static final int AT_LEAST = 257;
        static final int NUMBER = 258;
        static final int END = 259;
        static final int UNKNOWN = 260;
        /** The value of a number of more digits: it is below all that may be told. */
        static final int TOO_LONG = -1;

        final byte[] bytes = new byte[MOST_BYTES];
        int length;
        int fault;
        private final int[] tokens = new int[MOST_BYTES + 1];
        private final int[] starts = new int[MOST_BYTES + 1];
        private final int[] values = new int[MOST_BYTES + 1];
        private int size;
        private int at;

        void add(int four) {
            for (int shift = 24; shift >= 0 && length < MOST_BYTES; shift -= 8) {
                bytes[length] = (byte) (four >> shift);
                length++;
            }
        }

        void split() {
            size = 0;
            at = 0;
            fault = 0;
            int behind = 0;
            for (int place = 0; place < length; place++) {
                if (place >= behind && byteAt(place) != ' ') {
                    behind = splitAt(place);
                }
            }
            put(END, length, 0);
        }

        int token() {
            return tokens[at];
        }

        int value() {
            return values[at];
        }

        void step() {
            if (at + 1 < size) {
                at++;
            }
        }

        void fail(int kind) {
            if (fault == 0) {
                fault = 1 + 8 * starts[at] + kind;
            }
        }

        /** The number that stands here, from least to most and not another one; 0 and a fault, if it is not. */
        int number(int least, int most, int butNot) {
            if (fault != 0) {
                return 0;
            }
            int number = values[at];
            if (tokens[at] != NUMBER) {
                fail(CANNOT_STAND);
                return 0;
            }
            if (number < least || number > most || number == butNot) {
                fail(NOT_AS_TOLD);
                return 0;
            }
            step();
            return number;
        }

        /** Whether another clause is to come; what stands behind a clause and leads to none is a fault. */
        boolean goesOn() {
            if (fault != 0 || tokens[at] == END) {
                return false;
            }
            if (tokens[at] != ';') {
                fail(CANNOT_STAND);
                return false;
            }
            step();
            return true;
        }

        /** The place behind the token that starts here. */
        private int splitAt(int start) {
            int sign = byteAt(start);
            if (isDigit(sign)) {
                return splitNumber(start);
            }
            return isLetter(sign) ? splitWord(start) : splitSign(start);
        }

        private int splitNumber(int start) {
            int number = 0;
            int place = start;
            for (; place < length && isDigit(byteAt(place)); place++) {
                if (place - start < MOST_DIGITS) {
                    number = number * 10 + byteAt(place) - '0';
                }
            }
            put(NUMBER, start, place - start > MOST_DIGITS ? TOO_LONG : number);
            return place;
        }

        private int splitWord(int start) {
            int behind = start + 1;
            for (; behind < length && isLetter(byteAt(behind)); behind++) {
                continue;
            }
            put(wordOf(start, behind), start, 0);
            return behind;
        }

        private int splitSign(int start) {
            int sign = byteAt(start);
            if ((sign == '<' || sign == '>') && byteAt(start + 1) == '=') {
                put(sign == '<' ? AT_MOST : AT_LEAST, start, 0);
                return start + 2;
            }
            put(SIGNS.indexOf((char) sign) >= 0 ? sign : UNKNOWN, start, 0);
            return start + 1;
        }

        private void put(int token, int start, int value) {
            if (size < tokens.length) {
                tokens[size] = token;
                starts[size] = start;
                values[size] = value;
                size++;
            }
        }

        private int wordOf(int start, int behind) {
            int word = 0;
            int begin = 0;
            for (int i = 0; i <= WORDS.length(); i++) {
                if (i == WORDS.length() || WORDS.charAt(i) == ' ') {
                    if (i - begin == behind - start && isSame(begin, start, behind - start)) {
                        return word;
                    }
                    word++;
                    begin = i + 1;
                }
            }
            return UNKNOWN;
        }

        private boolean isSame(int begin, int start, int letters) {
            for (int i = 0; i < letters && begin + i < WORDS.length(); i++) {
                if (WORDS.charAt(begin + i) != byteAt(start + i)) {
                    return false;
                }
            }
            return true;
        }

        /** 0, which stands in no token, behind the end. */
        private int byteAt(int place) {
            return place >= 0 && place < length ? bytes[place] & 255 : 0;
        }

        private static boolean isDigit(int sign) {
            return sign >= '0' && sign <= '9';
        }

        private static boolean isLetter(int sign) {
            return sign >= 'a' && sign <= 'z';
        }
    }

    /** What a text told; it never changes once it is read, so states and images share it. */
    private static final class Realm {
        static final int MOST_CLAUSES = 40;

        boolean told;
        int keeps;
        int half;
        int questions;
        long wakes;
        final int[] worth = new int[MOST_QUESTIONS];
        final int[] from = new int[MOST_QUESTIONS];
        final int[] last = new int[MOST_QUESTIONS];
        final int[] alike = new int[MOST_QUESTIONS];

        boolean has(int question) {
            return question >= 0 && question < questions;
        }

        void readFrom(Text text) {
            boolean more = true;
            for (int clause = 0; more && clause <= MOST_CLAUSES; clause++) {
                readClause(text, clause);
                more = text.goesOn();
            }
            told = text.fault == 0;
        }

        private void readClause(Text text, int clause) {
            int word = text.token();
            if (word != Text.QUESTION && word != Text.REALM && word != Text.ALIKE && word != Text.WAKES) {
                text.fail(Text.CANNOT_STAND);
                return;
            }
            boolean ninth = word == Text.QUESTION && questions >= MOST_QUESTIONS;
            if (clause >= MOST_CLAUSES || (word == Text.REALM) != (clause == 0) || ninth) {
                text.fail(Text.CLAUSE_TOO_MANY);
                return;
            }
            text.step();
            switch (word) {
                case Text.REALM:
                    keeps = text.number(0, 9, NONE);
                    half = text.number(0, 9, NONE);
                    break;
                case Text.QUESTION:
                    readQuestion(text);
                    break;
                case Text.ALIKE:
                    readAlike(text);
                    break;
                default:
                    wakes |= 1L << text.number(0, LAST_TOLD_DAY, NONE);
                    break;
            }
        }

        private void readQuestion(Text text) {
            if (questions < MOST_QUESTIONS) {
                worth[questions] = text.number(0, 99, NONE);
                from[questions] = text.number(0, LAST_TOLD_DAY, NONE);
                last[questions] = text.number(from[questions], LAST_TOLD_DAY, NONE);
                questions++;
            }
        }

        private void readAlike(Text text) {
            int one = text.number(0, questions - 1, NONE);
            int other = text.number(0, questions - 1, one);
            if (text.fault == 0 && has(one) && has(other)) {
                alike[one] |= 1 << other;
                alike[other] |= 1 << one;
            }
        }
    }

    /**
     * A rule as a row of steps on a stack, in the order of its text: a number from 0 on is put there, so is a word,
     * as -1 less its number, and a token that works on what lies there is FIRST_TOKEN less it.
     */
    private static final class Rule {
        static final int FIRST_TOKEN = -100;
        static final int MOST_LYING = 64;

        private final int[] steps;

        Rule(int[] steps) {
            this.steps = steps;
        }

        /** The sum of the first clause that holds, 0 without: a clause's sum lies below its test when that is known. */
        long sumFor(int question, Trial trial) {
            long[] stack = trial.stack;
            int top = 0;
            for (int i = 0; i < steps.length; i++) {
                int step = steps[i];
                int token = FIRST_TOKEN - step;
                if (step > FIRST_TOKEN) {
                    if (top >= MOST_LYING) {
                        return 0;
                    }
                    stack[top] = step >= 0 ? step : trial.valueOf(-1 - step, question);
                    top++;
                } else if (token == Text.ASK) {
                    return top >= 1 ? stack[top - 1] : 0;
                } else if (token == Text.NOT) {
                    if (top >= 1) {
                        stack[top - 1] = 1 - stack[top - 1];
                    }
                } else if (top < 2) {
                    return 0;
                } else if (token == Text.IF) {
                    top -= 2;
                    if (stack[top + 1] != 0) {
                        return stack[top];
                    }
                } else {
                    top--;
                    stack[top - 1] = joined(token, stack[top - 1], stack[top]);
                }
            }
            return 0;
        }

        private static long joined(int token, long left, long right) {
            switch (token) {
                case '+':
                    return left + right;
                case '-':
                    return left - right;
                case '*':
                    return left * right;
                case '/':
                    return right == 0 ? 0 : left / right;
                case '%':
                    return right == 0 ? 0 : left % right;
                case Text.AND:
                    return left & right;
                case Text.OR:
                    return left | right;
                default:
                    return isSo(token, left, right) ? 1 : 0;
            }
        }

        private static boolean isSo(int sign, long left, long right) {
            switch (sign) {
                case '<':
                    return left < right;
                case Text.AT_MOST:
                    return left <= right;
                case '=':
                    return left == right;
                case Text.AT_LEAST:
                    return left >= right;
                default:
                    return left > right;
            }
        }
    }

    /** Reads a text into the steps of a rule. */
    private static final class RuleReader {
        static final int MOST_CLAUSES = 12;
        static final int MOST_DEEP = 10;
        static final int MOST_COUNTED = 60;

        /** As many as a text has bytes: each step comes of a byte, a word or a clause of its own. */
        private final int[] steps = new int[Text.MOST_BYTES];
        private int size;
        private int counted;

        /** The rule; null, and the text has its fault, if it has one. */
        Rule read(Text text) {
            size = 0;
            counted = 0;
            boolean more = true;
            for (int clause = 0; more && clause <= MOST_CLAUSES; clause++) {
                if (text.token() != Text.ASK) {
                    text.fail(Text.CANNOT_STAND);
                } else if (clause >= MOST_CLAUSES) {
                    text.fail(Text.CLAUSE_TOO_MANY);
                } else {
                    text.step();
                    readSum(text);
                    int closing = text.token() == Text.IF ? Text.IF : Text.ASK;
                    if (closing == Text.IF) {
                        text.step();
                        readTest(text, 0);
                    }
                    addToken(closing);
                }
                more = text.goesOn();
            }
            return text.fault == 0 ? new Rule(Arrays.copyOf(steps, size)) : null;
        }

        private void readTest(Text text, int depth) {
            readFact(text, depth);
            boolean orWaits = false;
            for (int i = 0; i < Text.MOST_BYTES && text.fault == 0; i++) {
                int word = text.token();
                if (word != Text.AND && word != Text.OR) {
                    break;
                }
                // "or" joins only when the part behind it is whole
                if (word == Text.OR && orWaits) {
                    addToken(Text.OR);
                }
                orWaits |= word == Text.OR;
                text.step();
                readFact(text, depth);
                if (word == Text.AND) {
                    addToken(Text.AND);
                }
            }
            if (orWaits) {
                addToken(Text.OR);
            }
        }

        private void readFact(Text text, int depth) {
            int token = text.token();
            if (text.fault != 0) {
                return;
            }
            if ((token == Text.NOT || token == '[') && depth >= MOST_DEEP) {
                text.fail(Text.TOO_DEEP);
            } else if (token == Text.NOT) {
                text.step();
                readFact(text, depth + 1);
                addToken(Text.NOT);
            } else if (token == '[') {
                text.step();
                readTest(text, depth + 1);
                if (text.token() != ']') {
                    text.fail(Text.CANNOT_STAND);
                }
                text.step();
            } else {
                readSum(text);
                int sign = readSign(text);
                readSum(text);
                addToken(sign);
            }
        }

        private int readSign(Text text) {
            int sign = text.token();
            if (sign != '<' && sign != Text.AT_MOST && sign != '=' && sign != Text.AT_LEAST && sign != '>') {
                text.fail(Text.CANNOT_STAND);
            } else if (counted >= MOST_COUNTED) {
                text.fail(Text.VALUE_TOO_MANY);
            }
            counted++;
            text.step();
            return sign;
        }

        private void readSum(Text text) {
            readValue(text);
            int waiting = 0;
            for (int i = 0; i < Text.MOST_BYTES && text.fault == 0; i++) {
                int sign = text.token();
                boolean joinsTerms = sign == '+' || sign == '-';
                if (!joinsTerms && sign != '*' && sign != '/' && sign != '%') {
                    break;
                }
                // "+" and "-" join only when the term behind them is whole
                if (joinsTerms && waiting != 0) {
                    addToken(waiting);
                }
                waiting = joinsTerms ? sign : waiting;
                text.step();
                readValue(text);
                if (!joinsTerms) {
                    addToken(sign);
                }
            }
            if (waiting != 0) {
                addToken(waiting);
            }
        }

        private void readValue(Text text) {
            int token = text.token();
            if (text.fault != 0) {
                return;
            }
            if (token != Text.NUMBER && token > Text.DAY) {
                text.fail(Text.CANNOT_STAND);
            } else if (token == Text.NUMBER && text.value() == Text.TOO_LONG) {
                text.fail(Text.NOT_AS_TOLD);
            } else if (counted >= MOST_COUNTED) {
                text.fail(Text.VALUE_TOO_MANY);
            } else {
                counted++;
                add(token == Text.NUMBER ? text.value() : -1 - token);
                text.step();
            }
        }

        private void addToken(int token) {
            add(Rule.FIRST_TOKEN - token);
        }

        private void add(int step) {
            if (size < steps.length) {
                steps[size] = step;
                size++;
            }
        }
    }

    /** How it stands in a realm: all that acts change. */
    private static final class State {
        Realm realm;
        long wakes;
        int day;
        int kept;
        int gained;
        int lost;
        int wasted;
        boolean hadEgg;
        int answeredSet;
        int bundledSet;
        int lostSet;
        final int[] worth = new int[MOST_QUESTIONS];
        final int[] alike = new int[MOST_QUESTIONS];

        State(Realm realm) {
            this.realm = realm;
        }

        void beginIn(Realm told) {
            realm = told;
            wakes = told.wakes;
            day = 0;
            kept = 0;
            gained = 0;
            lost = 0;
            wasted = 0;
            hadEgg = false;
            answeredSet = 0;
            bundledSet = 0;
            lostSet = 0;
            System.arraycopy(told.worth, 0, worth, 0, MOST_QUESTIONS);
            System.arraycopy(told.alike, 0, alike, 0, MOST_QUESTIONS);
        }

        void copyFrom(State other) {
            realm = other.realm;
            wakes = other.wakes;
            day = other.day;
            kept = other.kept;
            gained = other.gained;
            lost = other.lost;
            wasted = other.wasted;
            hadEgg = other.hadEgg;
            answeredSet = other.answeredSet;
            bundledSet = other.bundledSet;
            lostSet = other.lostSet;
            System.arraycopy(other.worth, 0, worth, 0, MOST_QUESTIONS);
            System.arraycopy(other.alike, 0, alike, 0, MOST_QUESTIONS);
        }

        int balance() {
            return gained - lost;
        }

        /** 0 neither, 1 answered, 2 answered in a bundle, 3 lost. */
        int becameOf(int question) {
            if ((answeredSet >> question & 1) != 0) {
                return 1;
            }
            if ((bundledSet >> question & 1) != 0) {
                return 2;
            }
            return isLost(question) ? 3 : 0;
        }

        boolean isLost(int question) {
            return (lostSet >> question & 1) != 0;
        }

        boolean isAllSettled() {
            return (answeredSet | bundledSet | lostSet) == (1 << realm.questions) - 1;
        }

        boolean isOpen(int question) {
            return realm.has(question) && (openSet() >> question & 1) != 0;
        }

        int openSet() {
            int settled = answeredSet | bundledSet | lostSet;
            int open = 0;
            for (int i = 0; i < realm.questions; i++) {
                if (day >= realm.from[i] && (settled >> i & 1) == 0) {
                    open |= 1 << i;
                }
            }
            return open;
        }

        boolean areAlike(int one, int other) {
            return (alike[one] >> other & 1) != 0;
        }

        void tieOrCut(int one, int other) {
            alike[one] ^= 1 << other;
            alike[other] ^= 1 << one;
        }

        int brings(int question, int open) {
            int bundle = alike[question] & open;
            int brought = worth[question];
            for (int i = 0; bundle >> i != 0 && i < MOST_QUESTIONS; i++) {
                if ((bundle >> i & 1) != 0) {
                    brought += worth[i] * realm.half / 10;
                }
            }
            return brought;
        }

        int answer(int question) {
            int open = openSet();
            int brought = brings(question, open);
            answeredSet |= 1 << question;
            bundledSet |= alike[question] & open;
            gained = Math.min(MOST_SUM, gained + brought);
            return brought;
        }

        boolean covers(int set, int open) {
            int covered = set;
            for (int i = 0; i < realm.questions; i++) {
                if ((set >> i & 1) != 0) {
                    covered |= alike[i];
                }
            }
            return (open & ~covered) == 0;
        }

        boolean wakesByHimself() {
            return day <= LAST_TOLD_DAY && (wakes >> day & 1) != 0;
        }

        boolean isDayWasted() {
            return hadEgg || wakesByHimself();
        }

        void decide(int question) {
            if (realm.has(question)) {
                answer(question);
            } else {
                kept = Math.min(realm.keeps, kept + 1);
            }
        }

        void endDay() {
            int open = openSet();
            for (int i = 0; open >> i != 0 && i < realm.questions; i++) {
                if ((open >> i & 1) != 0 && realm.last[i] <= day) {
                    lostSet |= 1 << i;
                    lost = Math.min(MOST_SUM, lost + worth[i]);
                }
            }
            day++;
            hadEgg = false;
        }

        int lostWeight() {
            int total = 0;
            for (int i = 0; i < realm.questions; i++) {
                total += isLost(i) ? weight(i) : 0;
            }
            return total;
        }

        /** Its part in the blame is by worth; when nothing of worth is lost, all weigh alike. */
        int weight(int question) {
            return lost > 0 ? worth[question] : 1;
        }
    }

    /** The states ahead of the last acts, in a ring, of which the oldest is overwritten when it is full. */
    private static final class Past {
        static final int MOST_ACTS = 20;

        int size;
        private int oldest;
        private final State[] states = new State[MOST_ACTS];

        Past(Realm realm) {
            for (int i = 0; i < MOST_ACTS; i++) {
                states[i] = new State(realm);
            }
        }

        void push(State state) {
            if (size >= MOST_ACTS) {
                oldest = placeOf(1);
                size = MOST_ACTS - 1;
            }
            states[placeOf(size)].copyFrom(state);
            size++;
        }

        void pop(State state) {
            if (size > 0) {
                size--;
                state.copyFrom(states[placeOf(size)]);
            }
        }

        void copyFrom(Past other) {
            size = other.size;
            oldest = 0;
            for (int i = 0; i < size; i++) {
                states[i].copyFrom(other.states[other.placeOf(i)]);
            }
        }

        private int placeOf(int act) {
            return (oldest + act) % MOST_ACTS;
        }
    }

    /** What was seen to be put to the king on some days. */
    private static final class Notes {
        static final int MOST = 10;

        int size;
        private final int[] days = new int[MOST];
        private final int[] seen = new int[MOST];

        boolean isFull() {
            return size >= MOST;
        }

        void add(int day, int question) {
            if (size < MOST) {
                days[size] = day;
                seen[size] = question;
                size++;
            }
        }

        boolean areSo(int[] puts, int begin) {
            for (int i = 0; i < size; i++) {
                int place = begin + days[i];
                if (place < 0 || place >= puts.length || puts[place] != seen[i]) {
                    return false;
                }
            }
            return true;
        }

        void copyFrom(Notes other) {
            size = other.size;
            System.arraycopy(other.days, 0, days, 0, MOST);
            System.arraycopy(other.seen, 0, seen, 0, MOST);
        }
    }

    /** All but the rules and the tape: as it is now, or as it was when an image was made. */
    private static final class Image {
        final State state;
        final Past past;
        final Notes notes = new Notes();
        int inForce = NONE;
        int x;

        Image() {
            Realm untold = new Realm();
            state = new State(untold);
            past = new Past(untold);
        }

        void begin(Realm told) {
            state.beginIn(told);
            past.size = 0;
            notes.size = 0;
        }

        void copyFrom(Image other) {
            state.copyFrom(other.state);
            past.copyFrom(other.past);
            notes.copyFrom(other.notes);
            inForce = other.inForce;
            x = other.x;
        }
    }

    /** Days that go on by a rule, on a state of their own. */
    private static final class Trial {
        final State state = new State(new Realm());
        final long[] stack = new long[Rule.MOST_LYING];
        private Rule rule;
        private int open;

        void start(State from, Rule byRule) {
            state.copyFrom(from);
            rule = byRule;
        }

        void startAnew(Realm told, Rule byRule) {
            state.beginIn(told);
            rule = byRule;
        }

        /** What was put to him. */
        int passDay() {
            int put = NONE;
            if (state.isDayWasted()) {
                state.wasted++;
            } else {
                open = state.openSet();
                put = rule == null ? mostUrgent() : mostAsked();
                state.decide(put);
            }
            state.endDay();
            return put;
        }

        void passDays(int n) {
            for (int i = 0; i < n; i++) {
                passDay();
            }
        }

        int balanceBehind(int n) {
            for (int i = 0; i < n && !state.isAllSettled(); i++) {
                passDay();
            }
            return state.balance();
        }

        long valueOf(int word, int question) {
            switch (word) {
                case Text.QUESTION:
                    return question;
                case Text.WORTH:
                    return state.worth[question];
                case Text.FROM:
                    return state.realm.from[question];
                case Text.LAST:
                    return state.realm.last[question];
                case Text.LEFT:
                    return state.realm.last[question] - state.day;
                case Text.BUNDLE:
                    return Integer.bitCount(state.alike[question] & open);
                case Text.BRINGS:
                    return state.brings(question, open);
                case Text.OPEN:
                    return Integer.bitCount(open);
                case Text.KEPT:
                    return state.kept;
                case Text.GAINED:
                    return state.gained;
                case Text.LOST:
                    return state.lost;
                case Text.WASTED:
                    return state.wasted;
                default:
                    return state.day;
            }
        }

        private int mostUrgent() {
            int chosen = NONE;
            int least = LAST_TOLD_DAY + 1;
            for (int i = 0; open >> i != 0 && i < MOST_QUESTIONS; i++) {
                if ((open >> i & 1) != 0 && state.realm.last[i] < least) {
                    least = state.realm.last[i];
                    chosen = i;
                }
            }
            return chosen;
        }

        private int mostAsked() {
            int chosen = NONE;
            long most = 0;
            for (int i = 0; open >> i != 0 && i < MOST_QUESTIONS && rule != null; i++) {
                if ((open >> i & 1) != 0) {
                    long sum = rule.sumFor(i, this);
                    if (sum > most) {
                        most = sum;
                        chosen = i;
                    }
                }
            }
            return chosen;
        }
    }

    /** Tries every row of questions for some days, in order, and keeps the first of the best. */
    private static final class RowSearch {
        static final int MOST_DAYS = 4;

        final int[] best = new int[MOST_DAYS];
        int bestBalance;
        private final int[] tried = new int[MOST_DAYS];
        private final State[] states = new State[MOST_DAYS + 1];
        private boolean found;

        RowSearch() {
            Realm untold = new Realm();
            for (int i = 0; i <= MOST_DAYS; i++) {
                states[i] = new State(untold);
            }
        }

        void find(State from, int n) {
            found = false;
            states[0].copyFrom(from);
            tryFrom(0, n);
        }

        private void tryFrom(int passed, int n) {
            if (passed >= n || passed >= MOST_DAYS) {
                keepIfBetter(states[passed].balance());
                return;
            }
            boolean wasted = states[passed].isDayWasted();
            int open = wasted ? 0 : states[passed].openSet();
            for (int put = NONE; put < MOST_QUESTIONS; put++) {
                if (put == NONE || (open >> put & 1) != 0) {
                    tried[passed] = put;
                    State next = states[passed + 1];
                    next.copyFrom(states[passed]);
                    // what is kept or wasted brings and loses nothing, so a wasted day needs no more than its end
                    if (!wasted) {
                        next.decide(put);
                    }
                    next.endDay();
                    tryFrom(passed + 1, n);
                }
            }
        }

        private void keepIfBetter(int balance) {
            if (!found || balance > bestBalance) {
                found = true;
                bestBalance = balance;
                System.arraycopy(tried, 0, best, 0, MOST_DAYS);
            }
        }
    }

    /** Finds the sets of the first days on which he must have woken to gain so much. */
    private static final class WakeSearch {
        static final int MOST_DAYS = 8;
        static final long ALL_DAYS = 255;

        int found;
        int least;
        int inAll;
        private final State[] states = new State[MOST_DAYS + 1];
        private long wakesBehind;

        WakeSearch() {
            Realm untold = new Realm();
            for (int i = 0; i <= MOST_DAYS; i++) {
                states[i] = new State(untold);
            }
        }

        /** The trial stands at the begin. */
        void find(Trial trial, int n, int gained) {
            found = 0;
            least = (int) ALL_DAYS;
            inAll = (int) ALL_DAYS;
            wakesBehind = trial.state.wakes & ~ALL_DAYS;
            states[0].copyFrom(trial.state);
            tryFrom(0, 0, trial, n, gained);
        }

        private void tryFrom(int passed, int set, Trial trial, int n, int gained) {
            State state = states[passed];
            if (passed < n && passed < MOST_DAYS && !state.isAllSettled()) {
                // what is gained never falls
                for (int wakes = 0; wakes < 2 && state.gained <= gained; wakes++) {
                    int tried = set | wakes << passed;
                    trial.state.copyFrom(state);
                    trial.state.wakes = wakesBehind | tried;
                    trial.passDay();
                    states[passed + 1].copyFrom(trial.state);
                    tryFrom(passed + 1, tried, trial, n, gained);
                }
                return;
            }
            trial.state.copyFrom(state);
            for (int i = passed; i < n && trial.state.gained <= gained && !trial.state.isAllSettled(); i++) {
                trial.passDay();
            }
            if (trial.state.gained == gained) {
                keep(passed, set);
            }
        }

        /** Waking on a day that was not tried makes no difference: the set stands for all that go on otherwise. */
        private void keep(int passed, int set) {
            found += 1 << (MOST_DAYS - passed);
            least = Math.min(least, set);
            inAll &= set;
        }
    }
}
