/**
 * Too small, too large: each number that a call is told, with the least and the greatest that the document names, and
 * with what is just and far beyond them (promises 2 to 35).
 */
final class BoundsTest {
    private static final long NO_VALUE = -2000000000000000000L;
    private static final long NO_PENCE = -1000000000L;
    /** A begin of the tape that is no TEXT of any sort. */
    private static final int NO_TEXT = 0x3f3f3f3f;

    private interface Call {
        long of(RunForIt x, int[] told);
    }

    private BoundsTest() {
    }

    public static void main(String[] args) {
        texts();
        things();
        book();
        whats();
        for (int n : new int[] {1, 2, 4, 5, 8}) {
            states(n);
            values(n);
            odds(n);
            log(n);
        }
        Due.end();
    }

    /** An object in which every RULE, LINE and RUNNER is told, with a LOG and a full tape. */
    private static RunForIt ready(int n) {
        RunForIt x = new RunForIt();
        x.steps(n);
        Due.law(x, "y1(1=1);g1(1=1);v50(1=1);m9(1=1);l12(1=1)");
        for (int k = 0; k < 4; k++) {
            Due.rule(x, k, "a1(1=1)");
        }
        for (int i = 0; i < 8; i++) {
            x.line(i, i % 4, 16777215, 0, 1);
        }
        for (int i = 0; i < 10; i++) {
            x.runner(i, 1, 1, 1);
        }
        x.drawn(0, 120, 9, false, false);
        while (x.feed(NO_TEXT, NO_TEXT, NO_TEXT, NO_TEXT, NO_TEXT) != -1) {
            continue;
        }
        return x;
    }

    private static int[] from(int told, int least, int most) {
        return new int[] {told, least, most};
    }

    /** Each of the numbers in turn at its bounds and beyond them, the others as they are told first. */
    private static void bounds(String name, int n, long refused, Call call, int[]... numbers) {
        for (int i = 0; i < numbers.length; i++) {
            int least = numbers[i][1];
            int most = numbers[i][2];
            for (int number : new int[] {least, most, least - 1, most + 1, Integer.MIN_VALUE, Integer.MAX_VALUE}) {
                int[] told = new int[numbers.length];
                for (int j = 0; j < told.length; j++) {
                    told[j] = j == i ? number : numbers[j][0];
                }
                boolean stands = number >= least && number <= most;
                Due.is(name + " of " + n + ", number " + i + " is " + number, stands, call.of(ready(n), told) != refused);
            }
        }
    }

    private static long bit(boolean answer) {
        return answer ? 1 : 0;
    }

    private static void texts() {
        bounds("steps", 6, 0, (x, a) -> bit(x.steps(a[0])), from(6, 1, 8));
        bounds("street", 6, -1, (x, a) -> x.street(a[0]), from(5, 1, 80));
        bounds("queue", 6, -1, (x, a) -> x.queue(a[0]), from(5, 0, 16));
        bounds("law", 6, -1, (x, a) -> x.law(a[0]), from(5, 1, 240));
        bounds("rule", 6, -1, (x, a) -> x.rule(a[0], a[1]), from(0, 0, 3), from(5, 1, 240));
        bounds("check", 6, -2, (x, a) -> x.check(a[0]), from(5, 0, 10));
    }

    private static void things() {
        bounds("line", 6, 0, (x, a) -> bit(x.line(a[0], a[1], a[2], a[3], a[4])), from(0, 0, 7), from(1, 0, 3),
            from(5, 0, 16777215), from(9, 0, 99), from(9, 0, 99));
        bounds("which", 6, -1, (x, a) -> x.which(a[0], a[1], a[2], a[3], a[4]), from(0, 0, 7), from(0, 0, 3),
            from(0, 0, 23), from(0, 0, 99), from(0, 0, 1));
        bounds("runner", 6, 0, (x, a) -> bit(x.runner(a[0], a[1], a[2], a[3])), from(0, 0, 9), from(5, 1, 120),
            from(5, 1, 40), from(5, 0, 999));
        bounds("wait", 6, NO_PENCE, (x, a) -> x.wait(a[0], a[1]), from(5, 0, 999), from(5, -1, 120));
        bounds("three", 6, -1, (x, a) -> x.three(a[0], a[1], a[2], a[3]), from(5, 0, 99), from(2, 1, 3), from(5, 0, 99),
            from(0, 0, 1));
    }

    private static void book() {
        bounds("book", 6, -1, (x, a) -> x.book(a[0]), from(0, 0, 3));
        bounds("fits", 6, -1, (x, a) -> x.fits(a[0], a[1], a[2], a[3]), from(5, 0, 10), from(5, 0, 10), from(5, 0, 10),
            from(5, 0, 10));
        bounds("seed", 6, 0, (x, a) -> bit(x.seed(a[0])), from(5, 0, 65535));
    }

    /** What count and log tell: several rows of numbers with gaps between them. */
    private static void whats() {
        bounds("count", 6, -1, (x, a) -> x.count(a[0]), from(0, 0, 6));
        bounds("count of a RULE", 6, -1, (x, a) -> x.count(a[0]), from(10, 10, 13));
        bounds("count of a KIND", 6, -1, (x, a) -> x.count(a[0]), from(100, 100, 220));
        bounds("count of people", 6, -1, (x, a) -> x.count(a[0]), from(300, 300, 399));
    }

    private static void states(int n) {
        bounds("may", n, -1, (x, a) -> x.may(a[0], a[1], a[2], false, false, a[3]), from(0, 0, n - 1), from(9, 0, 120),
            from(9, 0, 9), from(1, 0, 7));
        bounds("after", n, -1, (x, a) -> x.after(a[0], a[1], a[2], false, false, a[3], a[4]), from(0, 0, n - 1),
            from(9, 0, 120), from(9, 0, 9), from(1, 1, 7), from(0, 0, 4));
        bounds("point", n, -1, (x, a) -> x.point(a[0], a[1], false, false, a[2]), from(0, 0, n - 1), from(9, 0, 9),
            from(0, 0, 1));
        RunForIt x = ready(n);
        for (int action = -1; action <= 8; action++) {
            boolean is = action >= 0 && action <= 7 && action != 4;
            Due.is("may, ACTION " + action, is ? 1 : -1, x.may(0, 9, 9, true, true, action));
            Due.is("after, ACTION " + action, is && action > 0 ? 8 : -1, x.after(0, 9, 9, true, true, action, 0));
            Due.is("hadSeen, ACTION " + action, is && action > 0, x.hadSeen(9, 9, action, 1, 0) != -1);
            Due.is("corner, ACTION " + action, is, x.corner(120, 9, 1, action) != NO_VALUE);
        }
    }

    private static void values(int n) {
        bounds("best", n, NO_VALUE, (x, a) -> x.best(a[0], a[1], a[2], false, false, a[3]), from(0, 0, n), from(9, 0, 120),
            from(9, 0, 9), from(0, 0, 1));
        bounds("by", n, NO_VALUE, (x, a) -> x.by(a[0], a[1], a[2], a[3], false, false, a[4]), from(0, 0, 3), from(0, 0, n),
            from(9, 0, 120), from(9, 0, 9), from(0, 0, 4));
        bounds("more", n, NO_VALUE, (x, a) -> x.more(a[0], a[1], false, false, a[2]), from(9, 0, 120), from(9, 0, 9),
            from(0, 0, 1));
        bounds("corner", n, NO_VALUE, (x, a) -> x.corner(a[0], a[1], 5, a[2]), from(9, 6, 120), from(9, 0, 9), from(0, 0, 7));
        bounds("corner from 120", n, NO_VALUE, (x, a) -> x.corner(120, 9, a[0], 0), from(9, 0, 119));
        bounds("corner from 1", n, NO_VALUE, (x, a) -> x.corner(1, 9, a[0], 0), from(0, 0, 0));
        bounds("near", n, -1, (x, a) -> x.near(a[0], a[1], a[2], false, false, a[3]), from(0, 0, 3), from(9, 0, 120),
            from(9, 0, 9), from(0, 0, 1));
        bounds("drawn", n, -1, (x, a) -> x.drawn(a[0], a[1], a[2], false, false), from(0, 0, 3), from(9, 0, 120),
            from(9, 0, 9));
        if (n <= 4) {
            bounds("blind", n, NO_VALUE, (x, a) -> x.blind(a[0], a[1], false, false, a[2]), from(9, 0, 120), from(9, 0, 9),
                from(0, 0, n - 1));
            bounds("blind's VALUE", n, NO_VALUE, (x, a) -> x.blind(9, 9, false, false, a[0]), from(20, 20, 21));
        } else {
            for (int what = -1; what < 24; what++) {
                Due.is("blind of " + n + " " + what, NO_VALUE, ready(n).blind(9, 9, false, false, what));
            }
        }
    }

    private static void odds(int n) {
        bounds("leaves", n, -1, (x, a) -> x.leaves(a[0], a[1], a[2], false, false, a[3]), from(0, 0, n), from(9, 0, 120),
            from(9, 0, 9), from(0, 0, 1));
        bounds("over", n, -1, (x, a) -> x.over(a[0], a[1], a[2], a[3], a[4], false, false, a[5]), from(9, 1, 999),
            from(9, 1, 99), from(9, 0, 20), from(9, 0, 120), from(9, 0, 9), from(0, 0, 1));
        bounds("hadSeen", n, -1, (x, a) -> x.hadSeen(a[0], a[1], a[2], a[3], a[4]), from(9, 0, 120), from(9, 0, 9),
            from(1, 1, 7), from(1, 1, n), from(0, 0, 1));
    }

    /** The LOG has as many STEPS as were drawn; behind the last one there is one STATE more, but no ACTION. */
    private static void log(int n) {
        int steps = ready(n).log(0);
        bounds("log", n, -1, (x, a) -> x.log(a[0]), from(0, 0, 1));
        bounds("log, ACTIONS", n, -1, (x, a) -> x.log(a[0]), from(10, 10, 9 + steps));
        bounds("log, YARDS", n, -1, (x, a) -> x.log(a[0]), from(20, 20, 20 + steps));
        bounds("log, SEEN", n, -1, (x, a) -> x.log(a[0]), from(30, 30, 30 + steps));
        bounds("wrong", n, -1, (x, a) -> x.wrong(a[0], a[1]), from(0, 0, steps - 1), from(0, 0, 2));
        for (int i : new int[] {Integer.MIN_VALUE, -1, steps, Integer.MAX_VALUE}) {
            Due.is("i is not looked at", 0, ready(n).wrong(i, 1) >= 0 && ready(n).wrong(i, 2) >= 0 ? 0 : 1);
        }
    }
}
