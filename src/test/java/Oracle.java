import java.math.BigInteger;
import java.util.ArrayList;
import java.util.HashMap;
import java.util.List;
import java.util.Map;

/** The document once more, slow and straight from its words: what RandomRunsTest holds the class against. */
final class Oracle {
    static final long NO_VALUE = -2000000000000000000L;
    private static final BigInteger HUNDRED = BigInteger.valueOf(100);
    private static final int[] MOVES = {1, 2, 3, 5, 6, 7};

    record State(int d, int e, boolean z, boolean r) { }

    record Line(int colour, int hours, int far, int often) { }

    record Runner(int yards, int each, int worth) { }

    record Clause(char letter, Reckoned head, Reckoned condition) { }

    record Memory(int n, int x, Line[] lines, Runner[] runners, List<boolean[]> tries) { }

    interface Reckoned {
        int by(Map<Character, Integer> told);
    }

    @SuppressWarnings("serial")
    static final class Refused extends RuntimeException {
    }

    @SuppressWarnings("serial")
    static final class Fault extends RuntimeException {
        final int answer;

        Fault(int number, int place) {
            answer = -1000 * number - place;
        }
    }

    private int n = 6;
    private int x = 1;
    private String tape = "";
    private String yard = "";
    private String people = "";
    private int later = 0;
    private boolean mute = false;
    private List<Clause> laws = new ArrayList<>();
    private final List<List<Clause>> rules = new ArrayList<>();
    private Line[] lines = new Line[8];
    private Runner[] runners = new Runner[10];
    private List<boolean[]> book = new ArrayList<>();
    private Memory kept = null;
    private List<Integer> logActions = null;
    private List<State> logStates = null;
    private int logEnd = 0;
    private final Map<String, BigInteger> known = new HashMap<>();

    Oracle() {
        for (int k = 0; k < 4; k++) {
            rules.add(new ArrayList<>());
        }
    }

    // ---- TEXTS

    int feed(int a, int b, int c, int d, int e) {
        if (tape.length() > 240) {
            return -1;
        }
        for (int i : new int[] {a, b, c, d, e}) {
            tape += "" + (char) (i >>> 24) + (char) (i >>> 16 & 255) + (char) (i >>> 8 & 255) + (char) (i & 255);
        }
        return tape.length();
    }

    private void fallen() {
        logActions = null;
        logStates = null;
        logEnd = 0;
        known.clear();
    }

    boolean steps(int steps) {
        if (steps < 1 || steps > 8) {
            return false;
        }
        n = steps;
        fallen();
        return true;
    }

    private String taken(int length) {
        String text = tape.substring(0, length);
        tape = "";
        return text;
    }

    int street(int length) {
        if (length < 1 || length > 80 || length > tape.length()) {
            return -1;
        }
        String text = taken(length);
        StringBuilder yards = new StringBuilder();
        int at = 0;
        int pieces = 0;
        while (true) {
            int first = at;
            if (at == length || !Character.isDigit(text.charAt(at))) {
                return -1000 - at;
            }
            if (++pieces == 13) {
                return -4000 - at;
            }
            int number = 0;
            while (at < length && at < first + 2 && Character.isDigit(text.charAt(at))) {
                number = 10 * number + Character.digit(text.charAt(at++), 10);
            }
            if (number == 0) {
                return -3000 - first;
            }
            if (at == length || "fuws".indexOf(text.charAt(at)) < 0) {
                return -1000 - at;
            }
            yards.append(text.substring(at, at + 1).repeat(number));
            if (yards.length() > 120) {
                return -6000 - first;
            }
            if (++at == length) {
                break;
            }
            if (text.charAt(at) != ',') {
                return -1000 - at;
            }
            at++;
        }
        yard = yards.toString();
        fallen();
        return yard.length();
    }

    private int kind(int left) {
        if (left > yard.length() || yard.isEmpty()) {
            return 0;
        }
        return "fuws".indexOf(yard.charAt(left == 0 ? yard.length() - 1 : yard.length() - left));
    }

    int queue(int length) {
        if (length < 0 || length > 16 || length > tape.length()) {
            return -1;
        }
        String text = taken(length);
        for (int i = 0; i < length; i++) {
            if ("acop".indexOf(text.charAt(i)) < 0) {
                return -1000 - i;
            }
        }
        people = text;
        fallen();
        return boarding();
    }

    private int boarding() {
        return people.chars().map(c -> 1 + "acop".indexOf(c)).sum();
    }

    private int waiting(int t) {
        int passed = 0;
        int on = 0;
        for (char c : people.toCharArray()) {
            passed += 1 + "acop".indexOf(c);
            on += passed <= t ? 1 : 0;
        }
        return people.length() - on;
    }

    int law(int length) {
        if (length < 1 || length > 240 || length > tape.length()) {
            return -1;
        }
        try {
            laws = new Reader(taken(length), "ywbsgvml").read();
        } catch (Fault fault) {
            return fault.answer;
        }
        fallen();
        return laws.size();
    }

    int rule(int k, int length) {
        if (k < 0 || k > 3 || length < 1 || length > 240 || length > tape.length()) {
            return -1;
        }
        try {
            rules.set(k, new Reader(taken(length), "a").read());
        } catch (Fault fault) {
            return fault.answer;
        }
        return rules.get(k).size();
    }

    /** Reads by descent and hands out what reckons. */
    static final class Reader {
        private final String text;
        private final String letters;
        private int at = 0;
        private int open = 0;

        Reader(String text, String letters) {
            this.text = text;
            this.letters = letters;
        }

        private char next() {
            return at < text.length() ? text.charAt(at) : (char) 1000;
        }

        private void must(char c) {
            if (next() != c) {
                throw new Fault(1, at);
            }
            at++;
        }

        private void opens() {
            if (++open > 6) {
                throw new Fault(5, at);
            }
            at++;
        }

        private void closes(char c) {
            must(c);
            open--;
        }

        List<Clause> read() {
            List<Clause> clauses = new ArrayList<>();
            while (true) {
                char letter = next();
                if (letters.indexOf(letter) < 0) {
                    throw new Fault(1, at);
                }
                if (clauses.size() == 16) {
                    throw new Fault(4, at);
                }
                at++;
                Reckoned head = sum();
                if (next() != '(') {
                    throw new Fault(1, at);
                }
                opens();
                Reckoned condition = any();
                closes(')');
                clauses.add(new Clause(letter, head, condition));
                if (at == text.length()) {
                    return clauses;
                }
                must(';');
            }
        }

        private Reckoned any() {
            Reckoned left = all();
            if (next() != '|') {
                return left;
            }
            at++;
            Reckoned right = any();
            return told -> left.by(told) != 0 ? 1 : right.by(told);
        }

        private Reckoned all() {
            Reckoned left = piece();
            if (next() != '&') {
                return left;
            }
            at++;
            Reckoned right = all();
            return told -> left.by(told) == 0 ? 0 : right.by(told);
        }

        private Reckoned piece() {
            if (next() == '!') {
                opens();
                Reckoned inner = piece();
                open--;
                return told -> inner.by(told) == 0 ? 1 : 0;
            }
            if (next() == '(') {
                opens();
                Reckoned inner = any();
                closes(')');
                return inner;
            }
            Reckoned left = sum();
            char sign = next();
            if ("<>=".indexOf(sign) < 0) {
                throw new Fault(1, at);
            }
            at++;
            Reckoned right = sum();
            return told -> {
                int order = Integer.compare(left.by(told), right.by(told));
                return (sign == '<' ? order < 0 : sign == '>' ? order > 0 : order == 0) ? 1 : 0;
            };
        }

        private Reckoned sum() {
            Reckoned all = term();
            while (next() == '+' || next() == '-') {
                int sign = next() == '+' ? 1 : -1;
                at++;
                Reckoned before = all;
                Reckoned more = term();
                all = told -> before.by(told) + sign * more.by(told);
            }
            return all;
        }

        private Reckoned term() {
            Reckoned all = factor();
            while (next() == '*' || next() == '/' || next() == '%') {
                char sign = next();
                at++;
                Reckoned before = all;
                Reckoned more = factor();
                all = told -> {
                    int a = before.by(told);
                    int b = more.by(told);
                    if (sign == '*') {
                        return a * b;
                    }
                    if (b == 0) {
                        throw new Refused();
                    }
                    return sign == '/' ? a / b : a % b;
                };
            }
            return all;
        }

        private Reckoned factor() {
            char sign = next();
            if (sign == '[') {
                opens();
                Reckoned inner = sum();
                closes(']');
                return inner;
            }
            if ("tndezrpqka".indexOf(sign) >= 0) {
                at++;
                return told -> told.get(sign);
            }
            int number = 0;
            int digits = 0;
            while (next() >= '0' && next() <= '9') {
                if (++digits == 6) {
                    throw new Fault(2, at);
                }
                number = 10 * number + next() - '0';
                at++;
            }
            if (digits == 0) {
                throw new Fault(1, at);
            }
            int whole = number;
            return told -> whole;
        }
    }

    // ---- STATES and STEPS

    private int says(List<Clause> clauses, char letter, int t, State s, int action) {
        Map<Character, Integer> told = new HashMap<>();
        told.put('t', t);
        told.put('n', n);
        told.put('d', s.d);
        told.put('e', s.e);
        told.put('z', s.z ? 1 : 0);
        told.put('r', s.r ? 1 : 0);
        told.put('p', waiting(t));
        told.put('q', kind(s.d));
        told.put('k', action % 4);
        told.put('a', action / 4);
        for (Clause clause : clauses) {
            try {
                if (clause.letter != letter || clause.condition.by(told) == 0) {
                    continue;
                }
            } catch (Refused e) {
                continue;
            }
            try {
                return clause.head.by(told);
            } catch (Refused e) {
                return 0;
            }
        }
        return 0;
    }

    private int law(char letter, int t, State s, int action) {
        int most = "sg".indexOf(letter) >= 0 ? 10 : "wb".indexOf(letter) >= 0 ? 9 : 99;
        return Math.max(0, Math.min(most, says(laws, letter, t, s, action)));
    }

    private boolean mayBe(int t, State s, int action) {
        if (action == 0) {
            return true;
        }
        return action > 0 && action < 8 && action != 4 && law('w', t, s, action) <= s.e;
    }

    private State behind(int t, State s, int action) {
        int d = s.d - law('y', t, s, action);
        int e = s.e - law('w', t, s, action) + law('b', t, s, action);
        return new State(d < 0 ? 0 : d, e > 9 ? 9 : e, s.z, s.r || action % 4 == 3);
    }

    private int seenTenths(int t, State s, int action) {
        return s.z ? 10 : law('s', t, s, action);
    }

    private boolean goAsked(int t) {
        return t >= boarding() + later - 1;
    }

    private int goTenths(int t, State s) {
        return goAsked(t) ? law('g', t, s, 0) : 0;
    }

    private static State seen(State s, boolean z) {
        return new State(s.d, s.e, z, s.r);
    }

    private BigInteger all(int t) {
        return HUNDRED.pow(n - t);
    }

    private static BigInteger big(long x) {
        return BigInteger.valueOf(x);
    }

    private static boolean noState(int yards, int breath) {
        return yards < 0 || yards > 120 || breath < 0 || breath > 9;
    }

    private static boolean noMove(int action) {
        return action < 1 || action > 7 || action == 4;
    }

    int may(int t, int yards, int breath, boolean z, boolean r, int action) {
        if (t < 0 || t >= n || noState(yards, breath) || action != 0 && noMove(action)) {
            return -1;
        }
        return mayBe(t, new State(yards, breath, z, r), action) ? 1 : 0;
    }

    int after(int t, int yards, int breath, boolean z, boolean r, int action, int what) {
        if (t < 0 || t >= n || noState(yards, breath) || noMove(action) || what < 0 || what > 4) {
            return -1;
        }
        State s = new State(yards, breath, z, r);
        if (!mayBe(t, s, action)) {
            return -2;
        }
        State next = behind(t, s, action);
        return switch (what) {
            case 0 -> next.d;
            case 1 -> next.e;
            case 2 -> seenTenths(t, s, action);
            default -> next.d == 0 ? -1 : goTenths(t, seen(next, what == 4));
        };
    }

    // ---- BEST

    /** What comes of a row of ACTIONS that one chooses by the STATE. */
    private interface Chooser {
        int choose(int t, State s);
    }

    private BigInteger valueOf(int t, State s, int action) {
        if (action == 0) {
            return all(t).multiply(big(-law('l', t, s, 0)));
        }
        State next = behind(t, s, action);
        int tenths = seenTenths(t, s, action);
        BigInteger sum = BigInteger.ZERO;
        for (boolean z : new boolean[] {false, true}) {
            int chance = z ? tenths : 10 - tenths;
            if (chance == 0) {
                continue;
            }
            State there = seen(next, z);
            BigInteger value;
            if (there.d == 0) {
                value = all(t + 1).multiply(big(10 * law('v', t, there, 0)));
            } else {
                int go = goTenths(t, there);
                value = all(t + 1).multiply(big(-law('m', t, there, 0) * go))
                    .add(bestValue(t + 1, there).multiply(big(10 - go)));
            }
            sum = sum.add(value.multiply(big(chance)));
        }
        return sum;
    }

    private BigInteger bestValue(int t, State s) {
        if (s.d == 0) {
            return all(t).multiply(big(law('v', t, s, 0)));
        }
        if (t == n) {
            return big(-law('m', t, s, 0));
        }
        String key = t + " " + s + later + mute;
        BigInteger value = known.get(key);
        if (value == null) {
            value = valueOf(t, s, bestAction(t, s));
            known.put(key, value);
        }
        return value;
    }

    private int bestAction(int t, State s) {
        int best = 0;
        BigInteger most = valueOf(t, s, 0);
        for (int action : MOVES) {
            if (mute && action > 4 || !mayBe(t, s, action)) {
                continue;
            }
            BigInteger value = valueOf(t, s, action);
            if (value.compareTo(most) > 0) {
                most = value;
                best = action;
            }
        }
        return best;
    }

    long best(int t, int yards, int breath, boolean z, boolean r, int what) {
        if (t < 0 || t > n || noState(yards, breath) || what < 0 || what > 1) {
            return NO_VALUE;
        }
        State s = new State(yards, breath, z, r);
        if (what == 0) {
            return bestValue(t, s).longValueExact();
        }
        return yards == 0 || t == n ? -1 : bestAction(t, s);
    }

    int point(int t, int breath, boolean z, boolean r, int what) {
        if (t < 0 || t >= n || noState(0, breath) || what < 0 || what > 1) {
            return -1;
        }
        int most = -2;
        for (int yards = 1; yards <= 120; yards++) {
            int action = bestAction(t, new State(yards, breath, z, r));
            if (what == 0 ? action > 0 : action == 3 || action == 7) {
                most = yards;
            }
        }
        return most;
    }

    long more(int yards, int breath, boolean z, boolean r, int what) {
        if (noState(yards, breath) || what < 0 || what > 1) {
            return NO_VALUE;
        }
        State s = new State(yards, breath, z, r);
        long plain = bestValue(0, s).longValueExact();
        mute = what == 0;
        later = what;
        long other = bestValue(0, s).longValueExact();
        mute = false;
        later = 0;
        return what == 0 ? plain - other : other - plain;
    }

    // ---- RULES

    private int byRule(int k, int t, State s) {
        int action = says(rules.get(k), 'a', t, s, 0);
        return mayBe(t, s, action) ? action : 0;
    }

    /** VALUE, caught, MISSED, let go, and YARDS left when he MISSES it, each times 100 for each STEP left. */
    private BigInteger[] outcome(Chooser chooser, int t, State s) {
        BigInteger zero = BigInteger.ZERO;
        BigInteger whole = all(t);
        if (s.d == 0) {
            return new BigInteger[] {whole.multiply(big(law('v', t, s, 0))), whole, zero, zero, zero};
        }
        if (t == n) {
            return new BigInteger[] {big(-law('m', t, s, 0)), zero, BigInteger.ONE, zero, big(s.d)};
        }
        int action = chooser.choose(t, s);
        if (action == 0 || !mayBe(t, s, action)) {
            return new BigInteger[] {whole.multiply(big(-law('l', t, s, 0))), zero, zero, whole, zero};
        }
        BigInteger[] sums = {zero, zero, zero, zero, zero};
        State next = behind(t, s, action);
        int tenths = seenTenths(t, s, action);
        BigInteger rest = all(t + 1);
        for (boolean z : new boolean[] {false, true}) {
            int chance = z ? tenths : 10 - tenths;
            State there = seen(next, z);
            if (chance == 0) {
                continue;
            }
            if (there.d == 0) {
                sums[0] = sums[0].add(rest.multiply(big(10L * chance * law('v', t, there, 0))));
                sums[1] = sums[1].add(rest.multiply(big(10L * chance)));
                continue;
            }
            int go = goTenths(t, there);
            sums[0] = sums[0].subtract(rest.multiply(big((long) go * chance * law('m', t, there, 0))));
            sums[2] = sums[2].add(rest.multiply(big((long) go * chance)));
            sums[4] = sums[4].add(rest.multiply(big((long) go * chance * there.d)));
            BigInteger[] later = outcome(chooser, t + 1, there);
            for (int i = 0; i < 5; i++) {
                sums[i] = sums[i].add(later[i].multiply(big((10L - go) * chance)));
            }
        }
        return sums;
    }

    private boolean noRule(int k) {
        return k < 0 || k > 3 || rules.get(k).isEmpty();
    }

    long by(int k, int t, int yards, int breath, boolean z, boolean r, int what) {
        if (noRule(k) || t < 0 || t > n || noState(yards, breath) || what < 0 || what > 4) {
            return NO_VALUE;
        }
        State s = new State(yards, breath, z, r);
        if (what == 4) {
            return yards == 0 || t == n ? -1 : byRule(k, t, s);
        }
        return outcome((step, there) -> byRule(k, step, there), t, s)[what].longValueExact();
    }

    long near(int k, int yards, int breath, boolean z, boolean r, int what) {
        if (noRule(k) || noState(yards, breath) || what < 0 || what > 1) {
            return -1;
        }
        BigInteger[] all = outcome((step, there) -> byRule(k, step, there), 0, new State(yards, breath, z, r));
        return all[2].signum() == 0 ? -2 : part(all[4], all[2], what);
    }

    private static long part(BigInteger above, BigInteger below, int what) {
        BigInteger divisor = above.gcd(below);
        return (what == 0 ? above : below).divide(divisor).longValueExact();
    }

    long blind(int yards, int breath, boolean z, boolean r, int what) {
        if (n > 4 || noState(yards, breath) || !(what >= 0 && what < n || what == 20 || what == 21)) {
            return NO_VALUE;
        }
        State s = new State(yards, breath, z, r);
        BigInteger most = null;
        int best = 0;
        for (int row = 0; row < 1 << 3 * n; row++) {
            int actions = row;
            boolean none = false;
            for (int t = 0; t < n; t++) {
                none |= actionIn(actions, t) == 4;
            }
            if (none) {
                continue;
            }
            BigInteger value = outcome((t, there) -> actionIn(actions, t), 0, s)[0];
            if (most == null || value.compareTo(most) > 0) {
                most = value;
                best = row;
            }
        }
        if (what < n) {
            return actionIn(best, what);
        }
        return what == 20 ? most.longValueExact() : bestValue(0, s).subtract(most).longValueExact();
    }

    private int actionIn(int row, int t) {
        return row >> 3 * (n - 1 - t) & 7;
    }

    long corner(int yards, int breath, int corner, int what) {
        if (noState(yards, breath) || corner < 0 || corner > 119 || yards <= corner || what != 0 && noMove(what)) {
            return NO_VALUE;
        }
        State s = new State(yards, breath, false, false);
        if (what > 0) {
            return blindly(0, s, false, what, corner).longValueExact();
        }
        int best = 1;
        for (int action : MOVES) {
            if (blindly(0, s, false, action, corner).compareTo(blindly(0, s, false, best, corner)) > 0) {
                best = action;
            }
        }
        return best;
    }

    private BigInteger blindly(int t, State s, boolean gone, int action, int corner) {
        if (gone && (t == n || s.d <= corner)) {
            return all(t).multiply(big(-law('m', t, s, 0)));
        }
        if (t == n || s.d <= corner) {
            return bestValue(t, s);
        }
        if (!mayBe(t, s, action)) {
            return all(t).multiply(big(-law('l', t, s, 0)));
        }
        State next = behind(t, s, action);
        if (gone) {
            return HUNDRED.multiply(blindly(t + 1, next, true, action, corner));
        }
        int tenths = seenTenths(t, s, action);
        BigInteger sum = BigInteger.ZERO;
        for (boolean z : new boolean[] {false, true}) {
            State there = seen(next, z);
            BigInteger value;
            if (there.d == 0) {
                value = all(t + 1).multiply(big(10 * law('v', t, there, 0)));
            } else {
                int go = goTenths(t, there);
                value = blindly(t + 1, there, true, action, corner).multiply(big(go))
                    .add(blindly(t + 1, there, false, action, corner).multiply(big(10 - go)));
            }
            sum = sum.add(value.multiply(big(z ? tenths : 10 - tenths)));
        }
        return sum;
    }

    // ---- ODDS

    /** Of 10 to the n. */
    private BigInteger leaving(int j, State s) {
        BigInteger stays = BigInteger.ONE;
        for (int i = 0; i < j; i++) {
            stays = stays.multiply(big(10 - goTenths(i, s)));
        }
        return j == n ? stays : stays.multiply(big(goTenths(j, s))).multiply(BigInteger.TEN.pow(n - 1 - j));
    }

    long leaves(int j, int yards, int breath, boolean z, boolean r, int what) {
        if (j < 0 || j > n || noState(yards, breath) || what < 0 || what > 1) {
            return -1;
        }
        return part(leaving(j, new State(yards, breath, z, r)), BigInteger.TEN.pow(n), what);
    }

    long over(int far, int each, int ride, int yards, int breath, boolean z, boolean r, int what) {
        if (far < 1 || far > 999 || each < 1 || each > 99 || ride < 0 || ride > 20 || noState(yards, breath)
            || what < 0 || what > 1) {
            return -1;
        }
        BigInteger sum = BigInteger.ZERO;
        for (int j = 0; j <= n; j++) {
            if (each * (j + ride) >= far) {
                sum = sum.add(leaving(j, new State(yards, breath, z, r)));
            }
        }
        return part(sum, BigInteger.TEN.pow(n), what);
    }

    long hadSeen(int yards, int breath, int action, int j, int what) {
        if (noState(yards, breath) || noMove(action) || j < 1 || j > n || what < 0 || what > 1) {
            return -1;
        }
        State s = new State(yards, breath, false, false);
        BigInteger seen = BigInteger.ZERO;
        BigInteger not = BigInteger.ONE;
        for (int t = 0; t < j; t++) {
            if (!mayBe(t, s, action)) {
                return -3;
            }
            int tenths = seenTenths(t, s, action);
            s = behind(t, s, action);
            if (s.d == 0) {
                return -3;
            }
            BigInteger now = not.multiply(big(tenths));
            seen = seen.multiply(BigInteger.TEN).add(now).multiply(big(10 - goTenths(t, seen(s, true))));
            not = not.multiply(big(10 - tenths)).multiply(big(10 - goTenths(t, s)));
        }
        return seen.add(not).signum() == 0 ? -2 : part(seen, seen.add(not), what);
    }

    // ---- LINES, RUNNERS, games

    boolean line(int i, int colour, int hours, int far, int often) {
        if (i < 0 || i > 7 || colour < 0 || colour > 3 || hours < 0 || hours >= 1 << 24 || far < 0 || far > 99
            || often < 0 || often > 99) {
            return false;
        }
        lines[i] = new Line(colour, hours, far, often);
        return true;
    }

    int which(int i, int colour, int hour, int far, int what) {
        if (i < 0 || i > 7 || lines[i] == null || colour < 0 || colour > 3 || hour < 0 || hour > 23 || far < 0
            || far > 99 || what < 0 || what > 1) {
            return -1;
        }
        int sum = 0;
        int own = 0;
        for (int j = 0; j < 8; j++) {
            Line line = lines[j];
            if (line != null && line.colour == colour && (line.hours & 1 << hour) != 0 && line.far <= far) {
                sum += line.often;
                own += j == i ? line.often : 0;
            }
        }
        return sum == 0 ? -2 : (int) part(big(own), big(sum), what);
    }

    boolean runner(int i, int yards, int each, int worth) {
        if (i < 0 || i > 9 || yards < 1 || yards > 120 || each < 1 || each > 40 || worth < 0 || worth > 999) {
            return false;
        }
        runners[i] = new Runner(yards, each, worth);
        return true;
    }

    private int waited(int costs, int most) {
        int sum = 0;
        for (Runner one : runners) {
            if (one != null && one.yards <= most) {
                int steps = 0;
                while (steps * one.each < one.yards) {
                    steps++;
                }
                sum += one.worth - costs * steps;
            }
        }
        return sum;
    }

    int wait(int costs, int what) {
        if (costs < 0 || costs > 999 || what < -1 || what > 120) {
            return -1000000000;
        }
        if (what >= 0) {
            return waited(costs, what);
        }
        int best = 120;
        for (int yards = 120; yards >= 0; yards--) {
            best = waited(costs, yards) >= waited(costs, best) ? yards : best;
        }
        return best;
    }

    int three(int pence, int takes, int worth, int what) {
        if (pence < 0 || pence > 99 || takes < 1 || takes > 3 || worth < 0 || worth > 99 || what < 0 || what > 1) {
            return -1;
        }
        List<Integer> rows = new ArrayList<>();
        for (int row = 0; row < 8; row++) {
            boolean still = true;
            for (int person = 1; person <= 4; person *= 2) {
                still &= paid(row ^ person, person, pence, takes, worth) <= paid(row, person, pence, takes, worth);
            }
            if (still) {
                rows.add(row);
            }
        }
        return what == 0 ? rows.size() : rows.isEmpty() ? -2 : rows.get(0);
    }

    private static int paid(int row, int person, int pence, int takes, int worth) {
        boolean waits = (row & 1) + (row >> 1 & 1) + (row >> 2) >= takes;
        boolean runs = (row & person) != 0;
        return (waits ? runs ? worth : worth / 2 : 0) - (runs ? pence : 0);
    }

    // ---- the LOG

    private int draw() {
        x = (int) ((25173L * x + 13849L) % 65536L);
        return x % 10;
    }

    int drawn(int k, int yards, int breath, boolean z, boolean r) {
        if (noRule(k) || noState(yards, breath)) {
            return -1;
        }
        State s = new State(yards, breath, z, r);
        logActions = new ArrayList<>();
        logStates = new ArrayList<>(List.of(s));
        logEnd = yards == 0 ? 1 : 0;
        for (int t = 0; t < n && logEnd == 0; t++) {
            int action = byRule(k, t, s);
            logActions.add(action);
            if (action == 0) {
                logEnd = 3;
            } else {
                int tenths = seenTenths(t, s, action);
                s = behind(t, s, action);
                if (!s.z && draw() < tenths) {
                    s = seen(s, true);
                }
                if (s.d == 0) {
                    logEnd = 1;
                } else if (goAsked(t) && draw() < goTenths(t, s)) {
                    logEnd = 2;
                }
            }
            logStates.add(s);
        }
        logEnd = logEnd == 0 ? 2 : logEnd;
        return logEnd;
    }

    int log(int what) {
        if (what == 0) {
            return logActions == null ? 0 : logActions.size();
        }
        if (what == 1) {
            return logEnd;
        }
        if (logActions == null) {
            return -1;
        }
        if (what >= 10 && what - 10 < logActions.size()) {
            return logActions.get(what - 10);
        }
        if (what >= 20 && what - 20 < logStates.size()) {
            return logStates.get(what - 20).d;
        }
        if (what >= 30 && what - 30 < logStates.size()) {
            return logStates.get(what - 30).z ? 1 : 0;
        }
        return -1;
    }

    long wrong(int i, int what) {
        if (logActions == null || logActions.isEmpty() || what < 0 || what > 2
            || what == 0 && (i < 0 || i >= logActions.size())) {
            return -1;
        }
        BigInteger[] losses = new BigInteger[logActions.size()];
        int worst = 0;
        for (int t = 0; t < losses.length; t++) {
            State s = logStates.get(t);
            losses[t] = bestValue(t, s).subtract(valueOf(t, s, logActions.get(t))).multiply(HUNDRED.pow(t));
            worst = losses[t].compareTo(losses[worst]) > 0 ? t : worst;
        }
        return what == 1 ? worst : losses[what == 0 ? i : worst].longValueExact();
    }

    // ---- THE BOOK and what is KEPT

    int tries(boolean seen, boolean waited) {
        if (book.size() == 60) {
            return -1;
        }
        book.add(new boolean[] {seen, waited});
        return book.size();
    }

    int book(int what) {
        if (what < 0 || what > 3) {
            return -1;
        }
        return (int) book.stream().filter(one -> one[0] == what < 2 && (what % 2 == 0 || one[1])).count();
    }

    int fits(int seen, int not, int otherSeen, int otherNot) {
        if (Math.min(Math.min(seen, not), Math.min(otherSeen, otherNot)) < 0
            || Math.max(Math.max(seen, not), Math.max(otherSeen, otherNot)) > 10) {
            return -1;
        }
        int order = product(seen, not).compareTo(product(otherSeen, otherNot));
        return order == 0 ? 0 : order > 0 ? 1 : 2;
    }

    private BigInteger product(int seen, int not) {
        BigInteger product = BigInteger.ONE;
        for (boolean[] one : book) {
            int tenths = one[0] ? seen : not;
            product = product.multiply(big(one[1] ? tenths : 10 - tenths));
        }
        return product;
    }

    boolean seed(int seed) {
        if (seed < 0 || seed > 65535) {
            return false;
        }
        x = seed;
        return true;
    }

    private Memory memory() {
        return new Memory(n, x, lines.clone(), runners.clone(), new ArrayList<>(book));
    }

    int keep() {
        kept = memory();
        return book.size();
    }

    boolean undo() {
        if (kept == null) {
            return false;
        }
        n = kept.n;
        x = kept.x;
        lines = kept.lines.clone();
        runners = kept.runners.clone();
        book = new ArrayList<>(kept.tries);
        fallen();
        return true;
    }

    int check(int numbers) {
        if (numbers < 0 || numbers > 10 || tape.length() < 4 * numbers) {
            return -2;
        }
        String told = tape;
        tape = "";
        for (int i = 0; i < numbers; i++) {
            long number = 0;
            for (int j = 4 * i; j < 4 * i + 4; j++) {
                number = number * 256 + told.charAt(j);
            }
            if (number != (runners[i] == null ? 0 : runners[i].yards)) {
                return i;
            }
        }
        return -1;
    }

    int count(int what) {
        if (what >= 10 && what < 14) {
            return rules.get(what - 10).size();
        }
        if (what >= 100 && what <= 220) {
            return kind(what - 100);
        }
        if (what >= 300 && what <= 399) {
            return waiting(what - 300);
        }
        return switch (what) {
            case 0 -> n;
            case 1 -> yard.length();
            case 2 -> boarding();
            case 3 -> people.length();
            case 4 -> laws.size();
            case 5 -> tape.length();
            case 6 -> x;
            default -> -1;
        };
    }
}
