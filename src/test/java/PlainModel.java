import java.util.ArrayList;
import java.util.Arrays;
import java.util.List;
import java.util.TreeSet;

/** The document's promises once more, in the plainest way and without a thought of room or speed. */
final class PlainModel {
    static final class Fault extends RuntimeException {
        private static final long serialVersionUID = 1L;
        final int number;

        Fault(int place, int kind) {
            number = 1 + 8 * place + kind;
        }
    }

    interface Value {
        long of(State s, int q);
    }

    interface Fact {
        boolean holds(State s, int q);
    }

    record Clause(Value sum, Fact test) {
    }

    record Told(int keeps, int half, List<int[]> questions, boolean[][] alike, TreeSet<Integer> wakes) {
    }

    static final class Reader {
        final String text;
        int at;
        int counted;

        Reader(String text) {
            this.text = text;
        }

        void blanks() {
            while (at < text.length() && text.charAt(at) == ' ') {
                at++;
            }
        }

        char peek() {
            blanks();
            return at < text.length() ? text.charAt(at) : '\uffff';
        }

        boolean ended() {
            blanks();
            return at == text.length();
        }

        String peekWord() {
            blanks();
            int to = at;
            while (to < text.length() && text.charAt(to) >= 'a' && text.charAt(to) <= 'z') {
                to++;
            }
            return text.substring(at, to);
        }

        String peekDigits() {
            blanks();
            int to = at;
            while (to < text.length() && text.charAt(to) >= '0' && text.charAt(to) <= '9') {
                to++;
            }
            return text.substring(at, to);
        }

        int number(int least, int most, int not) {
            String digits = peekDigits();
            if (digits.isEmpty()) {
                throw new Fault(at, 0);
            }
            if (digits.length() > 5) {
                throw new Fault(at, 1);
            }
            int n = Integer.parseInt(digits);
            if (n < least || n > most || n == not) {
                throw new Fault(at, 1);
            }
            at += digits.length();
            return n;
        }

        Told realm() {
            int keeps = 0;
            int half = 0;
            List<int[]> questions = new ArrayList<>();
            boolean[][] alike = new boolean[8][8];
            TreeSet<Integer> wakes = new TreeSet<>();
            for (int clause = 1; ; clause++) {
                String word = peekWord();
                if (!List.of("realm", "question", "alike", "wakes").contains(word)) {
                    throw new Fault(at, 0);
                }
                boolean realm = word.equals("realm");
                if (clause > 40 || (clause == 1 && !realm) || (clause > 1 && realm)
                        || (word.equals("question") && questions.size() == 8)) {
                    throw new Fault(at, 4);
                }
                at += word.length();
                if (realm) {
                    keeps = number(0, 9, -1);
                    half = number(0, 9, -1);
                } else if (word.equals("question")) {
                    int worth = number(0, 99, -1);
                    int from = number(0, 60, -1);
                    questions.add(new int[] {worth, from, number(from, 60, -1)});
                } else if (word.equals("alike")) {
                    int one = number(0, questions.size() - 1, -1);
                    int other = number(0, questions.size() - 1, one);
                    alike[one][other] = true;
                    alike[other][one] = true;
                } else {
                    wakes.add(number(0, 60, -1));
                }
                if (ended()) {
                    return new Told(keeps, half, questions, alike, wakes);
                }
                sign(';');
            }
        }

        void sign(char c) {
            if (peek() != c || ended()) {
                throw new Fault(at, 0);
            }
            at++;
        }

        List<Clause> rule() {
            List<Clause> clauses = new ArrayList<>();
            while (true) {
                if (!peekWord().equals("ask")) {
                    throw new Fault(at, 0);
                }
                if (clauses.size() == 12) {
                    throw new Fault(at, 4);
                }
                at += 3;
                Value sum = sum();
                Fact test = null;
                if (peekWord().equals("if")) {
                    at += 2;
                    test = test(0);
                }
                clauses.add(new Clause(sum, test));
                if (ended()) {
                    return clauses;
                }
                sign(';');
            }
        }

        Fact test(int depth) {
            Fact left = part(depth);
            while (peekWord().equals("or")) {
                at += 2;
                Fact l = left;
                Fact r = part(depth);
                left = (s, q) -> l.holds(s, q) || r.holds(s, q);
            }
            return left;
        }

        Fact part(int depth) {
            Fact left = fact(depth);
            while (peekWord().equals("and")) {
                at += 3;
                Fact l = left;
                Fact r = fact(depth);
                left = (s, q) -> l.holds(s, q) && r.holds(s, q);
            }
            return left;
        }

        Fact fact(int depth) {
            if (peekWord().equals("not") || peek() == '[') {
                if (depth == 10) {
                    throw new Fault(at, 2);
                }
                if (peek() == '[') {
                    at++;
                    Fact within = test(depth + 1);
                    sign(']');
                    return within;
                }
                at += 3;
                Fact within = fact(depth + 1);
                return (s, q) -> !within.holds(s, q);
            }
            Value l = sum();
            int place = at;
            String sign = null;
            blanks();
            place = at;
            for (String one : List.of("<=", ">=", "<", "=", ">")) {
                if (sign == null && text.startsWith(one, at)) {
                    sign = one;
                }
            }
            if (sign == null) {
                throw new Fault(place, 0);
            }
            one(place);
            at += sign.length();
            Value r = sum();
            String is = sign;
            return (s, q) -> {
                int c = Long.compare(l.of(s, q), r.of(s, q));
                return c < 0 ? is.startsWith("<") : c == 0 ? is.endsWith("=") : is.startsWith(">");
            };
        }

        void one(int place) {
            counted++;
            if (counted > 60) {
                throw new Fault(place, 3);
            }
        }

        Value sum() {
            Value left = term();
            while (peek() == '+' || peek() == '-') {
                boolean plus = text.charAt(at++) == '+';
                Value l = left;
                Value r = term();
                left = (s, q) -> plus ? l.of(s, q) + r.of(s, q) : l.of(s, q) - r.of(s, q);
            }
            return left;
        }

        Value term() {
            Value left = value();
            while (peek() == '*' || peek() == '/' || peek() == '%') {
                char sign = text.charAt(at++);
                Value l = left;
                Value r = value();
                left = (s, q) -> {
                    long a = l.of(s, q);
                    long b = r.of(s, q);
                    return sign == '*' ? a * b : b == 0 ? 0 : sign == '/' ? a / b : a % b;
                };
            }
            return left;
        }

        Value value() {
            String digits = peekDigits();
            if (!digits.isEmpty()) {
                if (digits.length() > 5) {
                    throw new Fault(at, 1);
                }
                one(at);
                at += digits.length();
                long n = Long.parseLong(digits);
                return (s, q) -> n;
            }
            String word = peekWord();
            Value v = switch (word) {
                case "question" -> (s, q) -> q;
                case "worth" -> (s, q) -> s.worth[q];
                case "from" -> (s, q) -> s.from(q);
                case "last" -> (s, q) -> s.last(q);
                case "left" -> (s, q) -> s.last(q) - s.day;
                case "bundle" -> (s, q) -> s.bundle(q).size();
                case "brings" -> (s, q) -> s.brings(q);
                case "open" -> (s, q) -> s.open().size();
                case "kept" -> (s, q) -> s.kept;
                case "gained" -> (s, q) -> s.gained;
                case "lost" -> (s, q) -> s.lost;
                case "wasted" -> (s, q) -> s.wasted;
                case "day" -> (s, q) -> s.day;
                default -> null;
            };
            if (v == null) {
                throw new Fault(at, 0);
            }
            one(at);
            at += word.length();
            return v;
        }
    }

    static final class State {
        Told told;
        int day;
        int kept;
        int gained;
        int lost;
        int wasted;
        boolean egg;
        int[] became = new int[8];
        int[] worth = new int[8];
        boolean[][] alike = new boolean[8][8];
        TreeSet<Integer> wakes;

        State(Told told) {
            this.told = told;
            wakes = told.wakes();
            for (int i = 0; i < n(); i++) {
                worth[i] = told.questions().get(i)[0];
                alike[i] = told.alike()[i].clone();
            }
        }

        State copy() {
            State s = new State(told);
            s.day = day;
            s.kept = kept;
            s.gained = gained;
            s.lost = lost;
            s.wasted = wasted;
            s.egg = egg;
            s.became = became.clone();
            s.worth = worth.clone();
            s.wakes = wakes;
            for (int i = 0; i < 8; i++) {
                s.alike[i] = alike[i].clone();
            }
            return s;
        }

        int n() {
            return told.questions().size();
        }

        int from(int q) {
            return told.questions().get(q)[1];
        }

        int last(int q) {
            return told.questions().get(q)[2];
        }

        boolean isOpen(int q) {
            return q >= 0 && q < n() && day >= from(q) && became[q] == 0;
        }

        List<Integer> open() {
            List<Integer> all = new ArrayList<>();
            for (int q = 0; q < n(); q++) {
                if (isOpen(q)) {
                    all.add(q);
                }
            }
            return all;
        }

        List<Integer> bundle(int q) {
            List<Integer> all = new ArrayList<>();
            for (int other : open()) {
                if (alike[q][other]) {
                    all.add(other);
                }
            }
            return all;
        }

        int brings(int q) {
            int sum = worth[q];
            for (int other : bundle(q)) {
                sum += worth[other] * told.half() / 10;
            }
            return sum;
        }

        int answer(int q) {
            int brings = brings(q);
            List<Integer> with = bundle(q);
            became[q] = 1;
            for (int other : with) {
                became[other] = 2;
            }
            gained += brings;
            return brings;
        }

        boolean wastes() {
            return egg || wakes.contains(day);
        }

        int choice(List<Clause> rule) {
            int best = -1;
            long most = 0;
            for (int q : open()) {
                if (rule == null) {
                    if (best == -1 || last(q) < last(best)) {
                        best = q;
                    }
                    continue;
                }
                long sum = 0;
                for (Clause c : rule) {
                    if (c.test() == null || c.test().holds(this, q)) {
                        sum = c.sum().of(this, q);
                        break;
                    }
                }
                if (sum > most) {
                    most = sum;
                    best = q;
                }
            }
            return best;
        }

        int pass(List<Clause> rule) {
            return passWith(wastes() ? -1 : choice(rule));
        }

        int passWith(int q) {
            if (wastes()) {
                wasted++;
            } else if (q >= 0) {
                answer(q);
            } else if (kept < told.keeps()) {
                kept++;
            }
            for (int o : open()) {
                if (last(o) <= day) {
                    became[o] = 3;
                    lost += worth[o];
                }
            }
            day++;
            egg = false;
            return q;
        }

        int after(int n, List<Clause> rule) {
            for (int i = 0; i < n; i++) {
                pass(rule);
            }
            return gained - lost;
        }

        int count(int kind) {
            int all = 0;
            for (int q = 0; q < n(); q++) {
                all += became[q] == kind ? 1 : 0;
            }
            return all;
        }
    }

    record Whole(State state, List<State> past, List<int[]> notes, int inForce, long x) {
    }

    private static final Told NOTHING = new Told(0, 0, List.of(), new boolean[8][8], new TreeSet<>());
    private final StringBuilder tape = new StringBuilder();
    private final List<List<Clause>> rules = new ArrayList<>();
    private final Whole[] images = new Whole[4];
    private State s = new State(NOTHING);
    private List<State> past = new ArrayList<>();
    private List<int[]> notes = new ArrayList<>();
    private int inForce = -1;
    private long x;

    private boolean none() {
        return s.told == NOTHING;
    }

    private boolean bad(int n, int least, int most) {
        return n < least || n > most;
    }

    private boolean badQuestion(int q) {
        return bad(q, 0, s.n() - 1);
    }

    private List<Clause> forced() {
        return inForce < 0 ? null : rules.get(inForce);
    }

    private void act() {
        past.add(s.copy());
        if (past.size() > 20) {
            past.remove(0);
        }
    }

    int feed(int a, int b, int c, int d, int e) {
        if (tape.length() > 380) {
            return -1;
        }
        for (int four : new int[] {a, b, c, d, e}) {
            tape.append((char) (four >>> 24)).append((char) (four >>> 16 & 255));
            tape.append((char) (four >>> 8 & 255)).append((char) (four & 255));
        }
        return tape.length();
    }

    int end(int n) {
        if (bad(n, 0, tape.length())) {
            return -1;
        }
        tape.setLength(n);
        return n;
    }

    int realm() {
        String text = tape.toString();
        tape.setLength(0);
        try {
            Told told = new Reader(text).realm();
            s = new State(told);
            past = new ArrayList<>();
            notes = new ArrayList<>();
            return s.n();
        } catch (Fault fault) {
            return -2 - fault.number;
        }
    }

    int rule() {
        if (rules.size() == 6) {
            return -1;
        }
        String text = tape.toString();
        tape.setLength(0);
        try {
            rules.add(new Reader(text).rule());
            return rules.size() - 1;
        } catch (Fault fault) {
            return -2 - fault.number;
        }
    }

    int force(int rule) {
        if (bad(rule, -1, rules.size() - 1)) {
            return -2;
        }
        int was = inForce;
        inForce = rule;
        return was;
    }

    int question(int q, int what) {
        if (badQuestion(q) || bad(what, 0, 6)) {
            return -1;
        }
        int bits = 0;
        for (int i = 0; i < 8; i++) {
            bits += s.alike[q][i] ? 1 << i : 0;
        }
        return new int[] {s.worth[q], s.from(q), s.last(q), s.became[q], s.isOpen(q) ? 1 : 0, bits,
            s.isOpen(q) ? s.brings(q) : 0}[what];
    }

    int day() {
        if (none() || s.day == 999) {
            return -2;
        }
        act();
        return s.pass(forced());
    }

    int use(int q) {
        if (s.kept == 0 || !s.isOpen(q)) {
            return -1;
        }
        act();
        s.kept--;
        return s.answer(q);
    }

    int egg() {
        if (none() || s.egg) {
            return -1;
        }
        act();
        s.egg = true;
        return s.day;
    }

    int tie(int one, int other) {
        if (badQuestion(one) || badQuestion(other) || one == other) {
            return -1;
        }
        act();
        boolean then = !s.alike[one][other];
        s.alike[one][other] = then;
        s.alike[other][one] = then;
        return then ? 1 : 0;
    }

    int grow(int q, int more) {
        if (badQuestion(q) || s.became[q] != 0 || bad(more, 1, 99)) {
            return -1;
        }
        act();
        s.worth[q] += more;
        if (s.worth[q] > 999) {
            s.worth[q] = 999;
        }
        return s.worth[q];
    }

    int undo() {
        if (past.isEmpty()) {
            return -2;
        }
        s = past.remove(past.size() - 1);
        return past.size();
    }

    int ahead(int q, int n, int what) {
        if (none() || bad(n, 0, 100) || bad(what, 0, 3) || (what == 0 && badQuestion(q))) {
            return -1;
        }
        State then = s.copy();
        then.after(n, forced());
        return what == 0 ? then.became[q] : what == 1 ? then.gained : what == 2 ? then.lost : then.kept;
    }

    int fate(int q, int what) {
        if (badQuestion(q) || s.became[q] != 0 || bad(what, 0, 1)) {
            return -1;
        }
        State then = s.copy();
        for (int i = 0; i < 100; i++) {
            then.pass(forced());
            if (then.became[q] != 0) {
                return what == 0 ? s.day + i : then.became[q];
            }
        }
        return -2;
    }

    private void rows(State from, int n, List<Integer> row, List<Integer> best, int[] most) {
        if (row.size() == n) {
            if (best.isEmpty() || from.gained - from.lost > most[0]) {
                most[0] = from.gained - from.lost;
                best.clear();
                best.addAll(row);
            }
            return;
        }
        for (int q = -1; q < 8; q++) {
            if (q == -1 || (!from.wastes() && from.isOpen(q))) {
                State next = from.copy();
                next.passWith(q);
                List<Integer> longer = new ArrayList<>(row);
                longer.add(q);
                rows(next, n, longer, best, most);
            }
        }
    }

    int row(int n, int what) {
        if (none() || bad(n, 1, 4) || bad(what, 0, 4)) {
            return -100000;
        }
        List<Integer> best = new ArrayList<>();
        int[] most = new int[1];
        rows(s, n, new ArrayList<>(), best, most);
        return what == 0 ? most[0] - (s.gained - s.lost) : what > n ? -2 : best.get(what - 1);
    }

    int bind(int n, int what) {
        if (none() || bad(n, 1, 60) || bad(what, 0, 2)) {
            return -100000;
        }
        int[] best = {s.copy().after(n, forced()) - s.gained + s.lost, -1, -1};
        for (int one = 0; one < s.n(); one++) {
            for (int other = one + 1; other < s.n(); other++) {
                State then = s.copy();
                if (then.alike[one][other]) {
                    continue;
                }
                then.alike[one][other] = true;
                then.alike[other][one] = true;
                int more = then.after(n, forced()) - s.gained + s.lost;
                if (more > best[0]) {
                    best = new int[] {more, one, other};
                }
            }
        }
        return best[what];
    }

    private List<Integer> setsBySize() {
        List<Integer> sets = new ArrayList<>();
        for (int set = 0; set < 256; set++) {
            boolean all = true;
            for (int q = 0; q < 8; q++) {
                all &= (set >> q & 1) == 0 || s.isOpen(q);
            }
            if (all) {
                sets.add(set);
            }
        }
        sets.sort((a, b) -> Integer.bitCount(a) != Integer.bitCount(b)
                ? Integer.bitCount(a) - Integer.bitCount(b) : a - b);
        return sets;
    }

    int rescue(int n, int what) {
        if (none() || bad(n, 1, 60) || bad(what, 0, 1)) {
            return -1;
        }
        for (int set : setsBySize()) {
            State then = s.copy();
            for (int q = 0; q < 8; q++) {
                if ((set >> q & 1) == 1 && then.isOpen(q)) {
                    then.answer(q);
                }
            }
            then.after(n, forced());
            if (then.count(3) == s.count(3)) {
                return what == 0 ? Integer.bitCount(set) : set;
            }
        }
        return -2;
    }

    int cover(int what) {
        if (none() || bad(what, 0, 1)) {
            return -1;
        }
        for (int set : setsBySize()) {
            boolean all = true;
            for (int q : s.open()) {
                boolean one = (set >> q & 1) == 1;
                for (int other = 0; other < 8; other++) {
                    one |= (set >> other & 1) == 1 && s.alike[q][other];
                }
                all &= one;
            }
            if (all) {
                return what == 0 ? Integer.bitCount(set) : set;
            }
        }
        throw new IllegalStateException("all open ones cover themselves");
    }

    private int withEgg(int when, int n) {
        State then = s.copy();
        then.after(when, forced());
        then.egg = true;
        return then.after(n - when, forced());
    }

    int today(int n) {
        if (none() || bad(n, 1, 60)) {
            return -100000;
        }
        return s.copy().after(n, forced()) - withEgg(0, n);
    }

    int waste(int n, int what) {
        if (none() || bad(n, 1, 20) || bad(what, 0, 1)) {
            return -100000;
        }
        int best = 0;
        for (int i = 1; i < n; i++) {
            best = withEgg(i, n) > withEgg(best, n) ? i : best;
        }
        return what == 0 ? best : withEgg(best, n) - s.gained + s.lost;
    }

    int blame(int much, int question) {
        if (badQuestion(question) || bad(much, 0, 9999)) {
            return -1;
        }
        int total = 0;
        int[] weights = s.worth.clone();
        for (int q = 0; q < s.n(); q++) {
            total += s.became[q] == 3 ? s.worth[q] : 0;
        }
        if (total == 0) {
            Arrays.fill(weights, 1);
            total = s.count(3);
        }
        if (total == 0) {
            return 0;
        }
        int[] parts = new int[8];
        int[] rests = new int[8];
        int left = much;
        Arrays.fill(rests, -1);
        for (int q = 0; q < s.n(); q++) {
            if (s.became[q] == 3) {
                parts[q] = much * weights[q] / total;
                rests[q] = much * weights[q] % total;
                left -= parts[q];
            }
        }
        for (; left > 0; left--) {
            int most = 0;
            for (int q = 1; q < 8; q++) {
                most = rests[q] > rests[most] ? q : most;
            }
            parts[most]++;
            rests[most] = -1;
        }
        return parts[question];
    }

    int woke(int rule, int n, int gained, int what) {
        if (none() || bad(rule, -1, rules.size() - 1) || bad(n, 1, 60) || bad(gained, 0, 99999) || bad(what, 0, 2)) {
            return -3;
        }
        List<Integer> found = new ArrayList<>();
        for (int set = 0; set < 256; set++) {
            State then = new State(s.told);
            then.wakes = new TreeSet<>(s.told.wakes());
            for (int d = 0; d < 8; d++) {
                then.wakes.remove(d);
                if ((set >> d & 1) == 1) {
                    then.wakes.add(d);
                }
            }
            then.after(n, rule < 0 ? null : rules.get(rule));
            if (then.gained == gained) {
                found.add(set);
            }
        }
        int all = found.isEmpty() ? 0 : 255;
        for (int set : found) {
            all &= set;
        }
        return what == 0 ? found.size() : what == 2 ? all : found.isEmpty() ? -2 : found.get(0);
    }

    int note(int n, int q) {
        if (n == -1) {
            notes = new ArrayList<>();
            return 0;
        }
        if (none() || bad(n, 0, 60) || bad(q, -1, s.n() - 1) || notes.size() == 10) {
            return -2;
        }
        notes = new ArrayList<>(notes);
        notes.add(new int[] {n, q});
        return notes.size();
    }

    private int[] puts(int rule) {
        State then = new State(s.told);
        int[] puts = new int[61];
        for (int d = 0; d <= 60; d++) {
            puts[d] = then.pass(rule < 0 ? null : rules.get(rule));
        }
        return puts;
    }

    private List<Integer> fitting() {
        List<Integer> fitting = new ArrayList<>();
        for (int r = -1; r < rules.size(); r++) {
            int[] puts = puts(r);
            boolean so = true;
            for (int[] note : notes) {
                so &= puts[note[0]] == note[1];
            }
            if (so) {
                fitting.add(r);
            }
        }
        return fitting;
    }

    int ruled(int what) {
        if (none() || bad(what, 0, 1)) {
            return -3;
        }
        List<Integer> fitting = fitting();
        return what == 0 ? fitting.size() : fitting.isEmpty() ? -2 : fitting.get(0);
    }

    int look(int what) {
        if (none() || bad(what, 0, 1)) {
            return -1;
        }
        List<Integer> fitting = fitting();
        if (fitting.isEmpty()) {
            return -2;
        }
        int best = -1;
        int fewest = 99;
        for (int d = 0; d <= 60; d++) {
            int[] groups = new int[9];
            for (int r : fitting) {
                groups[puts(r)[d] + 1]++;
            }
            Arrays.sort(groups);
            if (groups[8] < fewest) {
                fewest = groups[8];
                best = d;
            }
        }
        return what == 0 ? best : fewest;
    }

    int seed(int to) {
        if (to < 0) {
            return -1;
        }
        int was = (int) x;
        x = to;
        return was;
    }

    int reigns(int m, int n, int p, int what) {
        if (none() || bad(m, 1, 10) || bad(n, 1, 60) || bad(p, 0, 100) || bad(what, 0, 1)) {
            return -1;
        }
        long drawn = x;
        int gained = 0;
        int lost = 0;
        for (int i = 0; i < m; i++) {
            State then = s.copy();
            for (int d = 0; d < n; d++) {
                drawn = (drawn * 1103515245L + 12345L) & 0x7fffffffL;
                then.egg |= (drawn >> 16) % 100 < p;
                then.pass(forced());
            }
            gained += then.gained - s.gained;
            lost += then.lost - s.lost;
        }
        return what == 0 ? gained : lost;
    }

    int count(int what) {
        if (bad(what, 0, 16)) {
            return -1;
        }
        int open = 0;
        for (int q : s.open()) {
            open += 1 << q;
        }
        return new int[] {s.told.keeps(), s.told.half(), s.n(), rules.size(), inForce, s.day, open, s.kept, s.gained,
            s.lost, s.wasted, s.egg ? 1 : 0, s.wakes.contains(s.day) ? 1 : 0, notes.size(), past.size(), (int) x,
            tape.length()}[what];
    }

    int image(int k) {
        if (bad(k, 0, 3)) {
            return -1;
        }
        List<State> states = new ArrayList<>();
        for (State one : past) {
            states.add(one.copy());
        }
        images[k] = new Whole(s.copy(), states, new ArrayList<>(notes), inForce, x);
        return s.day;
    }

    int back(int k) {
        if (bad(k, 0, 3) || images[k] == null) {
            return -1;
        }
        Whole whole = images[k];
        s = whole.state().copy();
        past = new ArrayList<>();
        for (State one : whole.past()) {
            past.add(one.copy());
        }
        notes = new ArrayList<>(whole.notes());
        inForce = whole.inForce();
        x = whole.x();
        return s.day;
    }
}
