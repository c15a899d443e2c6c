/**
 * Runs of calls by a fixed row of numbers, each answer held against the Oracle's: promises 1 to 35.
 * A first argument tells how many runs, a second one with which of them to begin.
 */
final class RandomRunsTest {
    private static final int[] NUMBERS = {0, 1, 2, 3, 4, 5, 7, 10, 20, 33, 99, 100, 120, 99999};
    private static final String[] HEADS = {"y5*k+3", "y10*k", "y8*k+d%3-q", "y4*k+e", "wk-1", "w[k-1]*2+a", "wk*k-1+q/2",
        "b1", "b2-r", "be/3", "s2+5*a", "sa*9+1", "s10-d/10+a*4", "s3", "g5", "g9-p", "g2+z*3", "g1", "v50", "v99-t*3",
        "v40+e", "m9+r*10", "m30-d/4", "m5", "l12", "l3+t", "l9-r"};
    private static final String[] CONDITIONS = {"1=1", "1=1", "1=1", "z=0", "t<2", "d>20", "!z=1&e>3", "t=0|q=1",
        "100/[d-20]>2", "!(r=1)", "d%[t-1]=0|e<5", "n-t>2&(q<2|z=1)"};

    private static final String SIGNS = "ywbsgvmltndezrpqka0123456789+-*/%<>=&|![](),;f \0\377";

    private static long state = 1;
    private static RunForIt made;
    private static Oracle due;
    private static int run;
    private static int call;

    private RandomRunsTest() {
    }

    public static void main(String[] args) {
        int runs = args.length > 0 ? Integer.parseInt(args[0]) : 250;
        int from = args.length > 1 ? Integer.parseInt(args[1]) : 0;
        for (run = from; run < from + runs && Due.wrongs() < 20; run++) {
            state = run * 7919L + 17;
            made = new RunForIt();
            due = new Oracle();
            oneRun();
        }
        Due.end();
    }

    private static void oneRun() {
        call = 0;
        boolean small = pick(4) > 0;
        if (small) {
            steps(1 + pick(4));
        }
        prepare();
        while (call < 512) {
            if (pick(60) == 0) {
                prepare();
            }
            switch (pick(7)) {
                case 0 -> texts(small);
                case 1, 2, 3 -> states(small);
                case 4 -> rulesAndLog();
                case 5 -> things();
                default -> bookAndTape();
            }
        }
    }

    private static int pick(int below) {
        state = state * 6364136223846793005L + 1442695040888963407L;
        return (int) ((state >>> 33) % below);
    }

    private static boolean coin() {
        return pick(2) == 0;
    }

    /** A number in bounds; now and then one that is just outside. */
    private static int in(int least, int most) {
        int sort = pick(24);
        if (sort == 0) {
            return least - 1;
        }
        return sort == 1 ? most + 1 : sort == 2 ? least : sort == 3 ? most : least + pick(most - least + 1);
    }

    private static void is(String what, long expected, long answer) {
        call++;
        Due.is("run " + run + ", call " + call + ": " + what, expected, answer);
    }

    private static void is(String what, boolean expected, boolean answer) {
        is(what, expected ? 1 : 0, answer ? 1 : 0);
    }

    private static void steps(int n) {
        is("steps " + n, due.steps(n), made.steps(n));
    }

    private static void feed(String text) {
        for (int from = 0; from < text.length(); from += 20) {
            int[] five = new int[5];
            for (int i = 0; i < 20; i++) {
                int at = from + i;
                five[i / 4] = five[i / 4] << 8 | (at < text.length() ? text.charAt(at) : pick(256));
            }
            feedFive(five);
        }
    }

    private static void feedFive(int[] five) {
        is("feed", due.feed(five[0], five[1], five[2], five[3], five[4]),
            made.feed(five[0], five[1], five[2], five[3], five[4]));
    }

    /** What lies on the tape would stand ahead of a TEXT. */
    private static void clean() {
        is("queue 0", due.queue(0), made.queue(0));
    }

    private static String spoilt(String text) {
        if (pick(5) > 0 || text.isEmpty()) {
            return text;
        }
        int at = pick(text.length());
        String by = pick(3) == 0 ? "" : "" + SIGNS.charAt(pick(SIGNS.length()));
        return text.substring(0, at) + by + text.substring(at + pick(2));
    }

    private static void street(String text) {
        feed(text);
        is("street " + text, due.street(text.length()), made.street(text.length()));
    }

    private static void law(String text) {
        feed(text);
        is("law " + text, due.law(text.length()), made.law(text.length()));
    }

    private static void rule(int k, String text) {
        feed(text);
        is("rule " + k + " " + text, due.rule(k, text.length()), made.rule(k, text.length()));
    }

    private static void queue(String text) {
        feed(text);
        is("queue " + text, due.queue(text.length()), made.queue(text.length()));
    }

    private static void prepare() {
        clean();
        street(someStreet());
        clean();
        law(someLaw());
        clean();
        rule(pick(4), someRule());
        clean();
        rule(pick(4), someRule());
        clean();
        queue(someQueue());
    }

    private static String someStreet() {
        StringBuilder text = new StringBuilder();
        int pieces = pick(8) == 0 ? 13 : 1 + pick(6);
        for (int i = 0; i < pieces; i++) {
            int yards = pick(pieces > 8 ? 10 : 40);
            text.append(i == 0 ? "" : ",").append(pick(9) == 0 ? "0" : "").append(yards).append("fuws".charAt(pick(4)));
        }
        return spoilt(text.toString());
    }

    private static String someQueue() {
        StringBuilder text = new StringBuilder();
        for (int i = pick(pick(3) == 0 ? 17 : 4); i > 0; i--) {
            text.append("acop".charAt(pick(pick(4) + 1)));
        }
        return pick(9) == 0 ? spoilt(text.toString()) : text.toString();
    }

    private static String someLaw() {
        StringBuilder text = new StringBuilder();
        int clauses = pick(20) == 0 ? 17 : 6 + pick(9);
        for (int i = 0; i < clauses; i++) {
            String clause = (pick(8) == 0 ? "ywbsgvml".charAt(pick(8)) + sum(2) : HEADS[pick(HEADS.length)])
                + "(" + (pick(5) == 0 ? any(2) : CONDITIONS[pick(CONDITIONS.length)]) + ")";
            if (text.length() + clause.length() > 235) {
                break;
            }
            text.append(i == 0 ? "" : ";").append(clause);
        }
        return pick(4) == 0 ? spoilt(text.toString()) : text.toString();
    }

    private static String someRule() {
        StringBuilder text = new StringBuilder();
        for (int i = pick(4); i >= 0; i--) {
            String clause = "a" + (pick(3) == 0 ? sum(2) : "" + pick(9)) + "("
                + (i == 0 ? "1=1" : CONDITIONS[pick(CONDITIONS.length)]) + ")";
            if (text.length() + clause.length() < 239) {
                text.append(text.length() == 0 ? "" : ";").append(clause);
            }
        }
        return pick(4) == 0 ? spoilt(text.toString()) : text.toString();
    }

    private static String sum(int depth) {
        StringBuilder text = new StringBuilder(factor(depth));
        for (int i = pick(3); i > 0; i--) {
            text.append("+-*/%".charAt(pick(5))).append(factor(depth));
        }
        return text.toString();
    }

    private static String factor(int depth) {
        if (depth > 0 && pick(4) == 0) {
            return "[" + sum(depth - 1) + "]";
        }
        return coin() ? "" + NUMBERS[pick(NUMBERS.length)] : "" + "tndezrpqka".charAt(pick(10));
    }

    private static String any(int depth) {
        StringBuilder text = new StringBuilder(piece(depth));
        for (int i = pick(3); i > 0; i--) {
            text.append("&|".charAt(pick(2))).append(piece(depth));
        }
        return text.toString();
    }

    private static String piece(int depth) {
        if (depth > 0 && pick(3) == 0) {
            return coin() ? "!" + piece(depth - 1) : "(" + any(depth - 1) + ")";
        }
        return sum(1) + "<>=".charAt(pick(3)) + sum(1);
    }

    private static void texts(boolean small) {
        clean();
        switch (pick(12)) {
            case 0 -> street(someStreet());
            case 1 -> queue(someQueue());
            case 2 -> law(someLaw());
            case 3, 4, 5 -> rule(in(0, 3), someRule());
            case 6 -> steps(small ? in(1, 4) : in(0, 9));
            case 7 -> {
                int n = in(0, 80);
                is("street " + n, due.street(n), made.street(n));
            }
            case 8 -> {
                int n = in(0, 240);
                is("law " + n, due.law(n), made.law(n));
            }
            case 9 -> {
                int n = in(0, 16);
                feed("acop".repeat(pick(5)));
                is("queue " + n, due.queue(n), made.queue(n));
            }
            default -> {
                int what = pick(5) == 0 ? in(0, 6) : coin() ? in(100, 220) : in(300, 399);
                is("count " + what, due.count(what), made.count(what));
            }
        }
    }

    private static int yards() {
        return pick(3) > 0 ? in(0, 45) : in(0, 120);
    }

    private static void states(boolean small) {
        int n = made.count(0);
        int t = pick(4) == 0 ? in(0, n) : in(0, n - 1);
        int d = yards();
        int e = in(0, 9);
        boolean z = coin();
        boolean r = pick(3) == 0;
        int action = in(0, 7);
        String told = " " + t + " " + d + " " + e + " " + z + " " + r + " action " + action + " what ";
        int what = in(0, 1);
        switch (pick(11)) {
            case 0 -> is("may" + told, due.may(t, d, e, z, r, action), made.may(t, d, e, z, r, action));
            case 1, 2 -> {
                int part = in(0, 4);
                is("after" + told + part, due.after(t, d, e, z, r, action, part), made.after(t, d, e, z, r, action, part));
            }
            case 3 -> is("best" + told + what, due.best(t, d, e, z, r, what), made.best(t, d, e, z, r, what));
            case 4 -> {
                if (small && pick(4) == 0) {
                    is("point" + told + what, due.point(t, e, z, r, what), made.point(t, e, z, r, what));
                }
            }
            case 5 -> is("more" + told + what, due.more(d, e, z, r, what), made.more(d, e, z, r, what));
            case 6 -> {
                int corner = coin() ? in(0, 119) : pick(30);
                int by = coin() ? 0 : action;
                is("corner " + corner + told + by, due.corner(d, e, corner, by), made.corner(d, e, corner, by));
            }
            case 7 -> {
                int part = coin() ? 20 + pick(3) : in(0, 4);
                if (n != 4 || pick(6) == 0) {
                    is("blind" + told + part, due.blind(d, e, z, r, part), made.blind(d, e, z, r, part));
                }
            }
            default -> oddsOf(t, d, e, z, r, what);
        }
    }

    private static void oddsOf(int j, int d, int e, boolean z, boolean r, int what) {
        String told = " " + j + " " + d + " " + e + " " + z + " " + r + " what " + what;
        switch (pick(3)) {
            case 0 -> is("leaves" + told, due.leaves(j, d, e, z, r, what), made.leaves(j, d, e, z, r, what));
            case 1 -> {
                int far = coin() ? in(1, 999) : 1 + pick(100);
                int each = in(1, 99);
                int ride = in(0, 20);
                is("over " + far + " " + each + " " + ride + told, due.over(far, each, ride, d, e, z, r, what),
                    made.over(far, each, ride, d, e, z, r, what));
            }
            default -> {
                int action = in(1, 7);
                is("hadSeen " + action + told, due.hadSeen(d, e, action, j, what), made.hadSeen(d, e, action, j, what));
            }
        }
    }

    private static void rulesAndLog() {
        int n = made.count(0);
        int k = in(0, 3);
        int t = in(0, n);
        int d = yards();
        int e = in(0, 9);
        boolean z = coin();
        boolean r = coin();
        String told = " " + k + " " + t + " " + d + " " + e + " " + z + " " + r + " what ";
        switch (pick(7)) {
            case 0, 1 -> {
                int what = in(0, 4);
                is("by" + told + what, due.by(k, t, d, e, z, r, what), made.by(k, t, d, e, z, r, what));
            }
            case 2 -> {
                int what = in(0, 1);
                is("near" + told + what, due.near(k, d, e, z, r, what), made.near(k, d, e, z, r, what));
            }
            case 3, 4 -> {
                is("drawn" + told, due.drawn(k, d, e, z, r), made.drawn(k, d, e, z, r));
                for (int what = -1; what < 42 && pick(12) > 0; what++) {
                    is("log " + what, due.log(what), made.log(what));
                }
            }
            case 5 -> {
                int what = in(0, 2);
                is("wrong" + told + what, due.wrong(t, what), made.wrong(t, what));
            }
            default -> {
                int what = in(0, 41);
                is("log " + what, due.log(what), made.log(what));
            }
        }
    }

    private static void things() {
        int what = in(0, 1);
        switch (pick(6)) {
            case 0, 1 -> {
                int i = in(0, 7);
                int colour = coin() ? pick(2) : in(0, 3);
                int hours = coin() ? in(0, 16777215) : 16777215;
                int far = in(0, 99);
                int often = coin() ? pick(6) * 10 : in(0, 99);
                is("line " + i, due.line(i, colour, hours, far, often), made.line(i, colour, hours, far, often));
            }
            case 2 -> {
                int i = in(0, 7);
                int colour = coin() ? pick(2) : in(0, 3);
                int hour = in(0, 23);
                int far = in(0, 99);
                is("which " + i, due.which(i, colour, hour, far, what), made.which(i, colour, hour, far, what));
            }
            case 3 -> {
                int i = in(0, 9);
                int yards = in(1, 120);
                int each = in(1, 40);
                int worth = in(0, 999);
                is("runner " + i, due.runner(i, yards, each, worth), made.runner(i, yards, each, worth));
            }
            case 4 -> {
                int costs = in(0, coin() ? 999 : 99);
                int by = coin() ? -1 : in(-1, 120);
                is("wait " + costs + " " + by, due.wait(costs, by), made.wait(costs, by));
            }
            default -> {
                int pence = in(0, coin() ? 99 : 9);
                int takes = in(1, 3);
                int worth = in(0, coin() ? 99 : 19);
                is("three " + pence + " " + takes + " " + worth, due.three(pence, takes, worth, what),
                    made.three(pence, takes, worth, what));
            }
        }
    }

    private static void bookAndTape() {
        switch (pick(8)) {
            case 0 -> {
                boolean seen = coin();
                boolean waited = coin();
                is("tries", due.tries(seen, waited), made.tries(seen, waited));
            }
            case 1 -> {
                int what = in(0, 3);
                is("book " + what, due.book(what), made.book(what));
            }
            case 2 -> {
                int a = in(0, 10);
                int b = in(0, 10);
                int c = coin() ? a : in(0, 10);
                int d = in(0, 10);
                is("fits " + a + " " + b + " " + c + " " + d, due.fits(a, b, c, d), made.fits(a, b, c, d));
            }
            case 3 -> {
                int x = in(0, 65535);
                is("seed " + x, due.seed(x), made.seed(x));
            }
            case 4 -> is("keep", due.keep(), made.keep());
            case 5 -> {
                if (pick(3) == 0) {
                    is("undo", due.undo(), made.undo());
                }
            }
            case 6 -> {
                int[] five = {pick(3), pick(121), 0, 0, coin() ? -1 : 0};
                feedFive(five);
            }
            default -> {
                int n = in(0, 10);
                is("check " + n, due.check(n), made.check(n));
                int what = in(0, 14);
                is("count " + what, due.count(what), made.count(what));
            }
        }
    }
}
