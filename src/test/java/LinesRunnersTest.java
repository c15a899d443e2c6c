/** Promises 20 to 24: LINES, WHICH IT IS, RUNNERS, THE DRIVER's WAIT, THREE RUN. */
final class LinesRunnersTest {
    private LinesRunnersTest() {
    }

    public static void main(String[] args) {
        lines();
        which();
        runners();
        waits();
        three();
        Due.end();
    }

    private static void lines() {
        RunForIt x = new RunForIt();
        int[][] right = {{0, 0, 0, 0, 0}, {7, 3, 16777215, 99, 99}};
        for (int[] l : right) {
            Due.is("line " + l[0], true, x.line(l[0], l[1], l[2], l[3], l[4]));
        }
        int[][] wrong = {{-1, 0, 0, 0, 0}, {8, 0, 0, 0, 0}, {3, -1, 0, 0, 0}, {3, 4, 0, 0, 0}, {3, 0, -1, 0, 0},
            {3, 0, 16777216, 0, 0}, {3, 0, 0, -1, 0}, {3, 0, 0, 100, 0}, {3, 0, 0, 0, -1}, {3, 0, 0, 0, 100}};
        for (int[] l : wrong) {
            Due.is("line " + l[0], false, x.line(l[0], l[1], l[2], l[3], l[4]));
        }
        Due.is("told", 1, x.which(7, 3, 23, 99, 1));
        Due.is("not told", -1, x.which(3, 3, 23, 99, 1));
    }

    private static void which() {
        RunForIt x = new RunForIt();
        x.line(0, 1, 3, 10, 30);
        x.line(1, 1, 1 << 23 | 2, 20, 10);
        x.line(2, 2, 16777215, 0, 99);
        x.line(3, 1, 2, 20, 20);
        x.line(4, 1, 4, 0, 0);
        Due.is("30 of 60", 1, x.which(0, 1, 1, 20, 0));
        Due.is("30 of 60", 2, x.which(0, 1, 1, 20, 1));
        Due.is("10 of 60", 1, x.which(1, 1, 1, 99, 0));
        Due.is("10 of 60", 6, x.which(1, 1, 1, 99, 1));
        Due.is("20 of 60", 3, x.which(3, 1, 1, 20, 1));
        Due.is("read from 19", 0, x.which(1, 1, 1, 19, 0));
        Due.is("read from 19", 1, x.which(1, 1, 1, 19, 1));
        Due.is("the only one from 19", 1, x.which(0, 1, 1, 19, 0));
        Due.is("from so far it can't be read", 1, x.which(0, 1, 1, 10, 0));
        Due.is("all can be read", -2, x.which(0, 1, 1, 9, 0));
        Due.is("in hour 23", 1, x.which(1, 1, 23, 20, 0));
        Due.is("another COLOUR", 0, x.which(0, 2, 1, 20, 0));
        Due.is("that COLOUR", 1, x.which(2, 2, 1, 0, 0));
        Due.is("none of the COLOUR", -2, x.which(0, 3, 1, 20, 0));
        Due.is("never there", -2, x.which(4, 1, 2, 20, 0));
        x.line(7, 0, 1, 99, 1);
        Due.is("COLOUR 0, hour 0, from 99", 1, x.which(7, 0, 0, 99, 0));
        Due.is("read from 98", -2, x.which(7, 0, 0, 98, 0));
        Due.is("not in hour 1", -2, x.which(7, 0, 1, 99, 0));
        x.line(6, 3, 16777215, 0, 99);
        Due.is("in every hour, from 0", 24, everyHour(x));
        x.line(0, 1, 2, 10, 10);
        Due.is("in place of the one before", 4, x.which(0, 1, 1, 20, 1));
        int[][] wrong = {{-1, 0, 0, 0, 0}, {8, 0, 0, 0, 0}, {5, 1, 1, 20, 0}, {0, -1, 0, 0, 0}, {0, 4, 0, 0, 0},
            {0, 0, -1, 0, 0}, {0, 0, 24, 0, 0}, {0, 0, 0, -1, 0}, {0, 0, 0, 100, 0}, {0, 1, 1, 20, -1}, {0, 1, 1, 20, 2}};
        for (int[] w : wrong) {
            Due.is("which", -1, x.which(w[0], w[1], w[2], w[3], w[4]));
        }
    }

    private static int everyHour(RunForIt x) {
        int hours = 0;
        for (int hour = 0; hour < 24; hour++) {
            hours += x.which(6, 3, hour, 0, 0) == 1 && x.which(6, 3, hour, 0, 1) == 1 ? 1 : 0;
        }
        return hours;
    }

    private static void runners() {
        RunForIt x = new RunForIt();
        int[][] wrong = {{-1, 1, 1, 0}, {10, 1, 1, 0}, {0, 0, 1, 0}, {0, 121, 1, 0}, {0, 1, 0, 0}, {0, 1, 41, 0},
            {0, 1, 1, -1}, {0, 1, 1, 1000}};
        for (int[] w : wrong) {
            Due.is("runner", false, x.runner(w[0], w[1], w[2], w[3]));
        }
        Due.is("none is told", 0, x.wait(0, 120));
        Due.is("runner", true, x.runner(9, 120, 40, 999));
        Due.is("runner", true, x.runner(0, 1, 1, 0));
        Due.is("told", 999, x.wait(0, 120));
        Due.is("runner", true, x.runner(9, 120, 1, 1));
        Due.is("in place of the one before", 1, x.wait(0, 120));
    }

    private static void waits() {
        RunForIt x = new RunForIt();
        x.runner(0, 10, 5, 30);
        x.runner(1, 50, 10, 20);
        x.runner(2, 51, 10, 31);
        x.runner(3, 120, 1, 999);
        Due.is("nobody", 0, x.wait(5, 0));
        Due.is("not yet", 0, x.wait(5, 9));
        Due.is("two STEPS", 20, x.wait(5, 10));
        Due.is("and five", 15, x.wait(5, 50));
        Due.is("and six, rounded up", 16, x.wait(5, 51));
        Due.is("all", 16 + 999 - 600, x.wait(5, 120));
        Due.is("all of them", 120, x.wait(5, -1));
        Due.is("only the first", 10, x.wait(9, -1));
        Due.is("dear", 0, x.wait(16, -1));
        Due.is("loss", 30 - 32, x.wait(16, 10));
        Due.is("for nothing", 1080, x.wait(0, 120));
        Due.is("at the dearest", 1080 - 999 * (2 + 5 + 6 + 120), x.wait(999, 120));
        Due.is("of like ones the fewest", 0, x.wait(15, -1));
        x.runner(3, 120, 40, 15);
        Due.is("of like ones the fewest", 10, x.wait(5, -1));
        x.runner(3, 120, 40, 19);
        Due.is("of like ones the fewest", 10, x.wait(5, -1));
        x.runner(3, 120, 40, 20);
        Due.is("one more", 120, x.wait(5, -1));
        RunForIt one = new RunForIt();
        Due.is("no RUNNERS: 0 YARDS", 0, one.wait(5, -1));
        one.runner(0, 1, 40, 9);
        Due.is("with 1 YARD left", 1, one.wait(8, -1));
        Due.is("one STEP, rounded up", 1, one.wait(8, 1));
        Due.is("it comes to nothing: the fewest", 0, one.wait(9, -1));
        one.runner(9, 120, 40, 999);
        Due.is("the last of them with 120", 120, one.wait(8, -1));
        Due.is("three STEPS just", 9 + 999 - 4 * 8, one.wait(8, 120));
        one.runner(9, 120, 39, 999);
        Due.is("four STEPS, rounded up", 9 + 999 - 5 * 8, one.wait(8, 120));
        for (int what : new int[] {-2, 121}) {
            Due.is("wait", -1000000000, x.wait(5, what));
        }
        for (int costs : new int[] {-1, 1000}) {
            Due.is("wait", -1000000000, x.wait(costs, 5));
            Due.is("wait", -1000000000, x.wait(costs, -1));
        }
    }

    private static void three(RunForIt x, int pence, int takes, int worth, int rows, int first) {
        String told = "three " + pence + " " + takes + " " + worth;
        Due.is(told + ": rows", rows, x.three(pence, takes, worth, 0));
        Due.is(told + ": the first", first, x.three(pence, takes, worth, 1));
    }

    /** All 8 rows count, how many run in them does not matter by itself. */
    private static void three() {
        RunForIt x = new RunForIt();
        // nobody gains anything, whatever he does: all 8 stand
        three(x, 0, 1, 0, 8, 0);
        three(x, 0, 2, 0, 8, 0);
        three(x, 0, 3, 0, 8, 0);
        // half of 1 is 0: all run
        three(x, 0, 1, 1, 1, 7);
        // who runs only loses: none runs
        three(x, 1, 1, 0, 1, 0);
        three(x, 1, 2, 0, 1, 0);
        three(x, 1, 3, 0, 1, 0);
        itTakesThree(x);
        itTakesTwo(x);
        itTakesOne(x);
        int[][] wrong = {{-1, 1, 1, 0}, {100, 1, 1, 0}, {1, 0, 1, 0}, {1, 4, 1, 0}, {1, 1, -1, 0}, {1, 1, 100, 0},
            {1, 1, 1, -1}, {1, 1, 1, 2}};
        for (int[] w : wrong) {
            Due.is("three", -1, x.three(w[0], w[1], w[2], w[3]));
        }
        three(x, 99, 3, 99, 2, 0);
        three(x, 99, 1, 99, 4, 0);
        Due.is("all there are: none other than by how many run", 0, otherThanByHowMany(x));
    }

    /** Who leaves the three loses all; two of them wait in vain, so that none of them stays if it costs. */
    private static void itTakesThree(RunForIt x) {
        three(x, 5, 3, 20, 2, 0);
        three(x, 20, 3, 20, 2, 0);
        three(x, 21, 3, 20, 1, 0);
        // one who runs in vain loses nothing by it, and two more have to come at once: 0, 1, 2, 4, 7
        three(x, 0, 3, 20, 5, 0);
    }

    /** Of two neither leaves; the third one gains by running if half is more than pence. */
    private static void itTakesTwo(RunForIt x) {
        three(x, 0, 2, 20, 2, 0);
        three(x, 5, 2, 20, 2, 0);
        // none, any two, all
        three(x, 10, 2, 20, 5, 0);
        three(x, 11, 2, 20, 4, 0);
        three(x, 20, 2, 20, 4, 0);
        three(x, 21, 2, 20, 1, 0);
        // half of 21 is 10
        three(x, 11, 2, 21, 5, 0);
        three(x, 12, 2, 21, 4, 0);
    }

    /** That none runs stands only if one alone would gain nothing by it. */
    private static void itTakesOne(RunForIt x) {
        three(x, 9, 1, 20, 1, 7);
        three(x, 10, 1, 20, 7, 1);
        three(x, 11, 1, 20, 3, 1);
        three(x, 19, 1, 20, 3, 1);
        three(x, 20, 1, 20, 4, 0);
        three(x, 21, 1, 20, 1, 0);
    }

    /** Who runs is like any other who runs: by how many run all of a kind stand or none does. */
    private static int otherThanByHowMany(RunForIt x) {
        int others = 0;
        for (int pence = 0; pence <= 99; pence++) {
            for (int takes = 1; takes <= 3; takes++) {
                for (int worth = 0; worth <= 99; worth++) {
                    int rows = 0;
                    int first = 8;
                    for (int run = 3; run >= 0; run--) {
                        if (stands(run, pence, takes, worth)) {
                            rows += run == 0 || run == 3 ? 1 : 3;
                            first = (1 << run) - 1;
                        }
                    }
                    boolean like = x.three(pence, takes, worth, 0) == rows && x.three(pence, takes, worth, 1) == first;
                    others += like ? 0 : 1;
                }
            }
        }
        return others;
    }

    private static boolean stands(int run, int pence, int takes, int worth) {
        int ran = (run >= takes ? worth : 0) - pence;
        int hadLeft = run - 1 >= takes ? worth / 2 : 0;
        int stayed = run >= takes ? worth / 2 : 0;
        int hadRun = (run + 1 >= takes ? worth : 0) - pence;
        return (run == 0 || hadLeft <= ran) && (run == 3 || hadRun <= stayed);
    }
}
