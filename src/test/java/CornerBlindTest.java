/** Promises 14 and 15: THE CORNER, and BLIND. */
final class CornerBlindTest {
    private static final long NO_VALUE = -2000000000000000000L;

    private CornerBlindTest() {
    }

    public static void main(String[] args) {
        corner();
        gone();
        seenAsItWas();
        noBreath();
        worths();
        bestOfThem();
        blind();
        leastRow();
        mayNotBeThen();
        wrongInputs();
        Due.end();
    }

    private static void corner() {
        RunForIt x = new RunForIt();
        x.steps(2);
        Due.queue(x, "a");
        Due.law(x, BestTest.LAW);
        Due.is("the best", 6, x.corner(40, 9, 15, 0));
        // walking 30 are left: the corner is not reached, nor the bus
        Due.is("walks", -90000, x.corner(40, 9, 15, 1));
        Due.is("walks round it", 500000, x.corner(10, 9, 9, 1));
        Due.is("caught ahead of the corner", 500000, x.corner(20, 9, 0, 2));
    }

    /** He goes on whether it has gone or not, and learns it ahead of the STEP in which he sees it. */
    private static void gone() {
        RunForIt x = new RunForIt();
        x.steps(4);
        Due.law(x, "y10(1=1);g10(t=0);v50(1=1);m3+t*5+d(1=1);l99(1=1)");
        // gone in STEP 0; with 20 left he sees it ahead of STEP 2
        Due.is("m ahead of STEP 2", -(3 + 10 + 20) * 100000000L, x.corner(40, 0, 20, 1));
        Due.is("m ahead of STEP 1", -(3 + 5 + 30) * 100000000L, x.corner(40, 0, 39, 1));
        Due.is("m ahead of STEP n", -(3 + 20 + 20) * 100000000L, x.corner(60, 0, 5, 1));
        Due.is("m where it stood", -(3 + 20 + 0) * 100000000L, x.corner(40, 0, 9, 1));
        Due.is("no stop for him", -(3 + 20 + 0) * 100000000L, x.corner(40, 0, 0, 1));
        Due.law(x, "y10(1=1);g5(t=0);v50(1=1);m3+t*5+d(1=1);l99(1=1)");
        Due.is("half of it", 50000000L * (50 - 33), x.corner(40, 0, 20, 1));
        for (int g : new int[] {1, 9}) {
            Due.law(x, "y10(1=1);g" + g + "(t=0);v50(1=1);m3+t*5+d(1=1);l99(1=1)");
            Due.is("gone by " + g, 10000000L * ((10 - g) * 50 - g * 33), x.corner(40, 0, 20, 1));
        }
        for (int s : new int[] {1, 9}) {
            Due.law(x, "y10(1=1);s" + s + "(1=1);g5(1=1);v20+z*10+t(1=1);l99(1=1)");
            Due.is("caught, SEEN by " + s, 10000000L * (s * 30 + (10 - s) * 20), x.corner(10, 0, 0, 1));
        }
        Due.law(x, "y10(1=1);v20+t(1=1);l99(1=1)");
        for (int t = 0; t < 4; t++) {
            Due.is("caught in STEP " + t, (20 + t) * 100000000L, x.corner(10 * t + 10, 0, 0, 1));
        }
    }

    /** Behind the going nobody sees him: SEEN stays, and what hangs on it. */
    private static void seenAsItWas() {
        RunForIt x = new RunForIt();
        x.steps(3);
        Due.law(x, "y10+z*5(1=1);s10(t=1);g10(t=0);v50(1=1);m20+z*30(1=1);l99(1=1)");
        Due.is("not SEEN when it goes", -20000000, x.corner(100, 0, 1, 1));
        Due.law(x, "y10+z*5(1=1);s10(t=0);g10(t=0);v50(1=1);m20+d(1=1);l99(1=1)");
        // SEEN in STEP 0 from 100: 90, 75, 60
        Due.is("SEEN when it goes", -80000000, x.corner(100, 0, 1, 1));
        Due.law(x, "y10+z*5(1=1);s10(t=1);g10(t=0);v50(1=1);m20+d(1=1);l99(1=1)");
        Due.is("not SEEN", -90000000, x.corner(100, 0, 1, 1));
    }

    private static void noBreath() {
        RunForIt x = new RunForIt();
        x.steps(3);
        Due.law(x, "y10(1=1);w2(1=1);v50(1=1);m20(1=1);l5+t(1=1)");
        Due.is("lets it go at once", -5000000, x.corner(90, 1, 0, 3));
        Due.is("lets it go in STEP 1", -6000000, x.corner(90, 3, 0, 3));
        Due.is("lets it go in STEP 2", -7000000, x.corner(90, 5, 0, 3));
        Due.is("MISSED", -20000000, x.corner(90, 6, 0, 3));
        Due.law(x, "y10(1=1);w2(1=1);v50(1=1);m20(1=1);l5+t(1=1);g10(1=1)");
        Due.is("gone or not", -6000000, x.corner(90, 3, 0, 3));
        Due.is("sees it first", -20000000, x.corner(90, 3, 80, 3));
    }

    /** v, m and l know neither pace nor wave. */
    private static void worths() {
        RunForIt x = new RunForIt();
        x.steps(1);
        Due.law(x, "y5(1=1);we/9*9(1=1);vk+a+6(1=1);mk+a+7(1=1);lk+a+8(1=1);gk+a(d=3);g10(1=1)");
        Due.is("v", 600, x.corner(5, 0, 1, 7));
        Due.is("m", -700, x.corner(6, 0, 1, 7));
        Due.is("m ahead of STEP n", -700, x.corner(8, 0, 1, 7));
        Due.law(x, "w1(1=1);lk+a+8(1=1)");
        Due.is("l", -800, x.corner(8, 0, 1, 7));
        Due.law(x, "y5(1=1);s1(1=1);v10+z*20(1=1);m20(1=1)");
        x.steps(2);
        // SEEN 30 by one tenth; else in the last STEP 30 by one tenth, 10 by nine
        Due.is("one tenth", 138000, x.corner(10, 0, 5, 1));
    }

    private static void bestOfThem() {
        RunForIt x = new RunForIt();
        x.steps(2);
        Due.law(x, "m3(1=1);l9(1=1)");
        Due.is("least of like ones", 1, x.corner(5, 0, 1, 0));
        Due.law(x, "m3(1=1);l9(1=1);w1(k=1)");
        Due.is("one that may not be is dearer", 2, x.corner(5, 0, 1, 0));
        Due.is("it lets it go", -90000, x.corner(5, 0, 1, 5));
        Due.law(x, "m3(1=1);l9(1=1);w1(a=0)");
        Due.is("a wave", 5, x.corner(5, 0, 1, 0));
        Due.law(x, "w1(1=1);l9(1=1)");
        Due.is("none may be: the least", 1, x.corner(5, 0, 1, 0));
        Due.law(x, "y9(k=3&a=1);v5(1=1)");
        Due.is("the last", 7, x.corner(5, 0, 1, 0));
        Due.law(x, "y9(1=1);wk+a(1=1);v50+e(1=1);m9(1=1)");
        Due.is("the first, the others a little worse", 1, x.corner(9, 9, 1, 0));
    }

    private static void blind() {
        RunForIt x = new RunForIt();
        x.steps(2);
        Due.queue(x, "a");
        Due.law(x, BestTest.LAW);
        for (int i = 0; i < 2; i++) {
            Due.is("VALUE", 370200, x.blind(40, 9, false, false, 20));
            Due.is("BEST less it", 0, x.blind(40, 9, false, false, 21));
            Due.is("first", 5, x.blind(40, 9, false, false, 0));
            Due.is("second", 3, x.blind(40, 9, false, false, 1));
            Due.is("from elsewhere", 500000, x.blind(0, 9, false, false, 20));
        }
        // SEEN it waits, and he must walk; not SEEN he must let it go: a row can't do both
        x.steps(2);
        Due.queue(x, "");
        Due.law(x, "y1(t=0|z=1);s5(t=0);v50(1=1);m30(1=1);l10(1=1)");
        Due.is("BEST", 5000L * 50 + 5000L * -10, x.best(0, 2, 0, false, false, 0));
        Due.is("BLIND", 5000L * 50 + 5000L * -30, x.blind(2, 0, false, false, 20));
        Due.is("less", 5000L * 20, x.blind(2, 0, false, false, 21));
        Due.is("no third place", NO_VALUE, x.blind(2, 0, false, false, 2));
    }

    private static void leastRow() {
        RunForIt x = new RunForIt();
        x.steps(4);
        Due.law(x, "y5(1=1);v9(1=1)");
        int[] due = {1, 0, 0, 0};
        for (int i = 0; i < 4; i++) {
            Due.is("behind the catch 0", due[i], x.blind(5, 0, false, false, i));
        }
        Due.law(x, "v9(1=1);m1(1=1)");
        for (int i = 0; i < 4; i++) {
            Due.is("let go at once", 0, x.blind(5, 0, false, false, i));
        }
        Due.is("costs nothing", 0, x.blind(5, 0, false, false, 20));
        Due.law(x, "y5(k=2&t<2|t=3&k=1);v9(1=1);l1(1=1);m2(1=1)");
        int[] row = {1, 2, 1, 1};
        for (int i = 0; i < 4; i++) {
            Due.is("least row, place " + i, row[i], x.blind(10, 0, false, false, i));
        }
        Due.law(x, "y5(k=3&a=1);v9(1=1);l1(1=1)");
        Due.is("the last ACTION", 7, x.blind(20, 0, false, false, 3));
        Due.is("four times", 900000000L, x.blind(20, 0, false, false, 20));
        for (int i = 0; i < 4; i++) {
            Due.is("caught ahead of STEP 0", 0, x.blind(0, 0, false, false, i));
        }
        Due.is("its VALUE", 900000000L, x.blind(0, 0, false, false, 20));
        Due.is("another STATE, another row", 900000000L, x.blind(10, 0, false, false, 20));
        Due.law(x, "y5(1=1);v8(1=1)");
        Due.is("another LAW", 800000000L, x.blind(10, 0, false, false, 20));
    }

    /** Where a row's ACTION may not be then it is 0, and 0 costs l. */
    private static void mayNotBeThen() {
        RunForIt x = new RunForIt();
        x.steps(2);
        Due.law(x, "y5(1=1);s5(t=0);w9(t=1&z=0);w0(1=1);v50(1=1);m30(1=1);l10(1=1)");
        Due.is("SEEN he walks on, else he lets it go", 5000L * 50 - 5000L * 10, x.blind(10, 8, false, false, 20));
        Due.is("as BEST does", 0, x.blind(10, 8, false, false, 21));
        Due.is("row", 1, x.blind(10, 8, false, false, 1));
    }

    private static void wrongInputs() {
        RunForIt x = new RunForIt();
        x.steps(4);
        int[][] corners = {{-1, 0, 0, 0}, {121, 0, 0, 0}, {5, -1, 0, 0}, {5, 10, 0, 0}, {5, 0, -1, 0}, {5, 0, 5, 0},
            {5, 0, 6, 0}, {120, 0, 120, 0}, {5, 0, 0, 4}, {5, 0, 0, 8}, {5, 0, 0, -1}, {0, 0, 0, 0}};
        for (int[] c : corners) {
            Due.is("corner", NO_VALUE, x.corner(c[0], c[1], c[2], c[3]));
        }
        Due.is("corner at 119", 1, x.corner(120, 0, 119, 0));
        int[][] blinds = {{-1, 0, 0}, {121, 0, 0}, {5, -1, 0}, {5, 10, 0}, {5, 0, -1}, {5, 0, 4}, {5, 0, 19}, {5, 0, 22}};
        for (int[] b : blinds) {
            Due.is("blind", NO_VALUE, x.blind(b[0], b[1], false, false, b[2]));
        }
        Due.is("blind", 0, x.blind(120, 9, true, true, 3));
        x.steps(3);
        Due.is("blind beyond n", NO_VALUE, x.blind(5, 0, false, false, 3));
        x.steps(5);
        for (int what : new int[] {0, 4, 20, 21}) {
            Due.is("n above 4", NO_VALUE, x.blind(5, 0, false, false, what));
        }
    }
}
