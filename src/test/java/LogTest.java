/** Promises 25 to 27 and 31: DRAWN, the LOG, what is WRONG in it, THE SEED. */
final class LogTest {
    private LogTest() {
    }

    public static void main(String[] args) {
        seeds();
        ends();
        draws();
        drawsAtTheEdges();
        log();
        falls();
        wrong();
        wrongInputs();
        Due.end();
    }

    private static void seeds() {
        RunForIt x = new RunForIt();
        for (int seed : new int[] {0, 65535, 4711}) {
            Due.is("seed " + seed, true, x.seed(seed));
            Due.is("X", seed, x.count(6));
        }
        for (int seed : new int[] {-1, 65536, Integer.MIN_VALUE}) {
            Due.is("seed " + seed, false, x.seed(seed));
            Due.is("X stays", 4711, x.count(6));
        }
    }

    private static int next(int x) {
        return (int) ((25173L * x + 13849) % 65536);
    }

    private static void ends() {
        RunForIt x = new RunForIt();
        x.steps(3);
        Due.law(x, "y5(1=1);g10(d=3)");
        Due.rule(x, 1, "a1(e>0);a0(1=1)");
        Due.is("caught", 1, x.drawn(1, 15, 5, false, false));
        Due.is("in STEP 2", 3, x.log(0));
        Due.is("MISSED", 2, x.drawn(1, 13, 5, false, false));
        Due.is("in STEP 1", 2, x.log(0));
        Due.is("YARDS behind it", 3, x.log(22));
        Due.is("MISSED ahead of STEP n", 2, x.drawn(1, 16, 5, false, false));
        Due.is("three STEPS", 3, x.log(0));
        Due.is("one YARD", 1, x.log(23));
        Due.is("let go", 3, x.drawn(1, 15, 0, true, false));
        Due.is("a STEP of it", 1, x.log(0));
        Due.is("its ACTION", 0, x.log(10));
        Due.is("YARDS ahead of it", 15, x.log(20));
        Due.is("YARDS behind it", 15, x.log(21));
        Due.is("SEEN ahead of it", 1, x.log(30));
        Due.is("SEEN behind it", 1, x.log(31));
        Due.is("nothing behind that", -1, x.log(22));
        Due.is("nothing behind that", -1, x.log(32));
        Due.is("caught at once", 1, x.drawn(1, 0, 5, true, false));
        Due.is("no STEP", 0, x.log(0));
        Due.is("ended", 1, x.log(1));
        Due.is("YARDS", 0, x.log(20));
        Due.is("SEEN", 1, x.log(30));
        Due.is("no second STATE", -1, x.log(21));
        Due.is("no ACTION", -1, x.log(10));
    }

    /** One number for SEEN unless he is, then one for g if that is asked: at 0 YARDS or ahead of B - 1 it is not. */
    private static void draws() {
        RunForIt x = new RunForIt();
        x.steps(2);
        Due.rule(x, 0, "a1(1=1)");
        int a = next(1);
        int b = next(a);
        int c = next(b);
        int d = next(c);
        Due.is("the first", 39022, a);
        Due.law(x, "s5(1=1);g0(1=1)");
        x.drawn(0, 9, 9, false, false);
        Due.is("by hand: 2 is below 5", 1, x.log(31));
        Due.is("SEEN in STEP 0: three numbers", c, x.count(6));
        x.seed(1);
        x.drawn(0, 9, 9, true, false);
        Due.is("SEEN before: two numbers", b, x.count(6));
        x.seed(1);
        Due.law(x, "s2(1=1);g0(1=1)");
        x.drawn(0, 9, 9, false, false);
        Due.is("2 is not below 2", 0, x.log(31));
        x.seed(1);
        Due.law(x, "s0(1=1)");
        x.drawn(0, 9, 9, false, false);
        Due.is("never SEEN: four numbers", d, x.count(6));
        x.seed(1);
        Due.queue(x, "c");
        x.drawn(0, 9, 9, false, false);
        Due.is("g is not asked in STEP 0: three", c, x.count(6));
        x.seed(1);
        Due.law(x, "y9(1=1)");
        x.drawn(0, 18, 9, false, false);
        Due.is("caught: g is not asked in STEP 1", b, x.count(6));
        x.seed(1);
        x.drawn(0, 0, 9, false, false);
        Due.is("caught at once: none", 1, x.count(6));
        Due.rule(x, 0, "a0(1=1)");
        x.drawn(0, 9, 9, false, false);
        Due.is("let go: none", 1, x.count(6));
        Due.queue(x, "");
        Due.rule(x, 0, "a1(1=1)");
        Due.law(x, "s0(1=1);g" + (b % 10) + "(1=1)");
        x.drawn(0, 9, 9, false, false);
        Due.is("stays: not below", 2, x.log(0));
        x.seed(1);
        Due.law(x, "s0(1=1);g" + (b % 10 + 1) + "(1=1)");
        Due.is("goes: below", 2, x.drawn(0, 9, 9, false, false));
        Due.is("in STEP 0", 1, x.log(0));
        Due.is("two numbers", b, x.count(6));
        x.drawn(0, 9, 9, false, false);
        Due.is("X goes on", true, x.count(6) != b && x.count(6) != 1);
    }

    /** Modulo 65536: what X becomes at the edges, by hand; a number is drawn for s and g of 0 and of 10, too. */
    private static void drawsAtTheEdges() {
        RunForIt x = new RunForIt();
        x.steps(1);
        Due.rule(x, 0, "a1(1=1)");
        int[] seeds = {0, 1, 65535, 32768, 13};
        int[] next = {13849, 39022, 54212, 46617, 13418};
        for (int i = 0; i < seeds.length; i++) {
            x.seed(seeds[i]);
            Due.is("one number of " + seeds[i], 2, x.drawn(0, 9, 9, true, false));
            Due.is("X behind " + seeds[i], next[i], x.count(6));
            Due.is("X behind " + seeds[i], next[i], next(seeds[i]));
        }
        x.steps(2);
        for (int seed = 0; seed < 40; seed++) {
            x.seed(seed);
            Due.law(x, "s10(1=1);g0(1=1)");
            x.drawn(0, 9, 9, false, false);
            Due.is("10 of 10: SEEN", 1, x.log(31));
            Due.is("0 of 10: stays", 2, x.log(0));
            Due.is("three numbers", next(next(next(seed))), x.count(6));
            x.seed(seed);
            Due.law(x, "s0(1=1);g10(1=1)");
            x.drawn(0, 9, 9, false, false);
            Due.is("0 of 10: not SEEN", 0, x.log(31));
            Due.is("10 of 10: goes", 1, x.log(0));
            Due.is("two numbers", next(next(seed)), x.count(6));
        }
    }

    private static void log() {
        RunForIt x = new RunForIt();
        x.steps(8);
        Due.is("no LOG", 0, x.log(0));
        Due.is("no LOG", 0, x.log(1));
        for (int what = -2; what < 60; what++) {
            if (what != 0 && what != 1) {
                Due.is("no LOG " + what, -1, x.log(what));
            }
        }
        Due.law(x, "y3(1=1);w3(k=3);s10(t=2)");
        Due.rule(x, 0, "a3(1=1&e>2);a6(e=0);a1(1=1)");
        Due.is("MISSED", 2, x.drawn(0, 99, 6, false, false));
        int[] actions = {3, 3, 6, 6, 6, 6, 6, 6};
        Due.is("STEPS", 8, x.log(0));
        Due.is("ended", 2, x.log(1));
        for (int i = 0; i < 10; i++) {
            Due.is("ACTION " + i, i < 8 ? actions[i] : -1, x.log(10 + i));
            Due.is("YARDS " + i, i <= 8 ? 99 - 3 * i : -1, x.log(20 + i));
            Due.is("SEEN " + i, i <= 8 ? (i > 2 ? 1 : 0) : -1, x.log(30 + i));
        }
        for (int what : new int[] {-1, 2, 9, 18, 19, 29, 39, 40, Integer.MAX_VALUE, Integer.MIN_VALUE}) {
            Due.is("log " + what, -1, x.log(what));
        }
    }

    private static RunForIt drawn() {
        RunForIt x = new RunForIt();
        Due.rule(x, 0, "a1(1=1)");
        x.keep();
        x.drawn(0, 9, 9, false, false);
        Due.is("a LOG", 2, x.log(1));
        return x;
    }

    private static void falls() {
        RunForIt x = drawn();
        x.steps(0);
        Due.street(x, "0f");
        Due.queue(x, "x");
        Due.law(x, "x");
        x.queue(-1);
        Due.rule(x, 0, "a0(1=1)");
        x.seed(9);
        x.keep();
        x.drawn(1, 9, 9, false, false);
        Due.is("stays", 2, x.log(1));
        Due.is("stays", 6, x.log(0));
        x.steps(6);
        Due.is("falls by STEPS", 0, x.log(1));
        Due.is("STEPS of none", 0, x.log(0));
        Due.is("no STATE", -1, x.log(20));
        x = drawn();
        Due.street(x, "1f");
        Due.is("falls by a STREET", 0, x.log(1));
        x = drawn();
        Due.queue(x, "");
        Due.is("falls by a QUEUE", 0, x.log(1));
        x = drawn();
        Due.law(x, "y1(1=1)");
        Due.is("falls by a LAW", 0, x.log(1));
        x = drawn();
        x.undo();
        Due.is("falls when UNDONE", 0, x.log(1));
        x.drawn(0, 9, 9, false, false);
        Due.is("another LOG", 2, x.log(1));
    }

    private static void wrong() {
        RunForIt x = new RunForIt();
        x.steps(3);
        // 6 a STEP with pace 3, 2 else; from 10: two of pace 3 or none of it
        Due.law(x, "y6(k=3);y2(1=1);v50-t*5(1=1);m20(1=1);l9(1=1)");
        Due.rule(x, 0, "a3(t=1);a1(1=1)");
        Due.is("caught in STEP 2", 1, x.drawn(0, 10, 0, false, false));
        Due.is("45 could be, 40 can be", 5000000, x.wrong(0, 0));
        Due.is("no better then", 0, x.wrong(1, 0));
        Due.is("no better then", 0, x.wrong(2, 0));
        Due.is("WORST", 0, x.wrong(-7, 1));
        Due.is("by how much", 5000000, x.wrong(99, 2));
        Due.rule(x, 0, "a1(t<2)");
        Due.is("let go", 3, x.drawn(0, 10, 0, false, false));
        Due.is("STEP 0", 5000000, x.wrong(0, 0));
        Due.is("STEP 1: 40 can be either way", 0, x.wrong(1, 0));
        Due.is("STEP 2: 40 less -9", 49000000, x.wrong(2, 0));
        Due.is("WORST", 2, x.wrong(0, 1));
        Due.is("by how much", 49000000, x.wrong(0, 2));
        Due.rule(x, 0, "a1(1=1)");
        Due.is("MISSED", 2, x.drawn(0, 10, 0, false, false));
        Due.is("STEP 2: 40 less -20", 60000000, x.wrong(2, 0));
        Due.law(x, "m20(1=1);l9(1=1)");
        x.drawn(0, 10, 0, false, false);
        for (int i = 0; i < 3; i++) {
            Due.is("BEST lets it go, and lets it go behind", i < 2 ? 0 : 11000000, x.wrong(i, 0));
        }
        Due.is("the last is the WORST", 2, x.wrong(0, 1));
        Due.law(x, "y3(k=2);v9(1=1);m1(d>3);m9(1=1)");
        Due.rule(x, 0, "a1(t=1);a2(1=1)");
        x.drawn(0, 9, 0, false, false);
        Due.is("the WORST is STEP 1", 1, x.wrong(0, 1));
        Due.rule(x, 0, "a1(1=1)");
        Due.law(x, "y3(k=2);v9(1=1)");
        x.drawn(0, 9, 0, false, false);
        Due.is("STEP 0", 9000000, x.wrong(0, 0));
        Due.is("nothing left", 0, x.wrong(1, 0));
        Due.law(x, "y3(k=2);v9(1=1);m0(1=1)");
        Due.rule(x, 0, "a2(t=0);a1(1=1)");
        x.drawn(0, 6, 0, false, false);
        Due.is("of like ones the first", 2, x.wrong(0, 1));
        Due.law(x, "m9(1=1)");
        Due.rule(x, 0, "a0(1=1)");
        x.drawn(0, 6, 0, false, false);
        Due.is("nothing WRONG: the first", 0, x.wrong(0, 1));
        Due.is("by 0", 0, x.wrong(0, 2));
    }

    private static void wrongInputs() {
        RunForIt x = new RunForIt();
        Due.is("not told", -1, x.drawn(0, 9, 9, false, false));
        Due.rule(x, 0, "a1(1=1)");
        int[][] wrong = {{-1, 9, 9}, {4, 9, 9}, {1, 9, 9}, {0, -1, 9}, {0, 121, 9}, {0, 9, -1}, {0, 9, 10}};
        for (int[] w : wrong) {
            Due.is("drawn", -1, x.drawn(w[0], w[1], w[2], false, false));
        }
        Due.is("X stays", 1, x.count(6));
        Due.is("no LOG", 0, x.log(1));
        for (int what = 0; what < 3; what++) {
            Due.is("no LOG", -1, x.wrong(0, what));
        }
        x.drawn(0, 0, 9, false, false);
        for (int what = 0; what < 3; what++) {
            Due.is("no STEP", -1, x.wrong(0, what));
        }
        x.drawn(0, 9, 9, false, false);
        Due.is("no such STEP", -1, x.wrong(-1, 0));
        Due.is("no such STEP", -1, x.wrong(6, 0));
        Due.is("no such what", -1, x.wrong(0, -1));
        Due.is("no such what", -1, x.wrong(0, 3));
        Due.is("the last", 0, x.wrong(5, 0));
    }
}
