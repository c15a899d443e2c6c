/** Promises 10, 12 and 13: BEST, THE POINT, what a WAVE and a STEP more of BOARDING are worth. */
final class BestTest {
    private static final long NO_VALUE = -2000000000000000000L;
    static final String LAW = "y10*k(1=1);wk-1(1=1);b1(1=1);s2+5*a(1=1);g5(z=0);g1(1=1);v50(1=1);m9+r*10(1=1);l12(1=1)";

    private BestTest() {
    }

    public static void main(String[] args) {
        ends();
        likeActions();
        tenths();
        oneTenth();
        worthsKnowNoPace();
        stepOfTheWorths();
        greatest();
        eachStateByItself();
        changes();
        changesBehindMore();
        point();
        more();
        wrongInputs();
        Due.end();
    }

    private static void ends() {
        RunForIt x = new RunForIt();
        x.steps(8);
        Due.law(x, "v7+t(1=1);m5+t+p(1=1);l2+d(1=1);y1(1=1);g10(1=1)");
        Due.is("caught ahead of STEP 0", 70000000000000000L, x.best(0, 0, 0, false, false, 0));
        Due.is("caught ahead of STEP 3", 100000000000L, x.best(3, 0, 9, true, true, 0));
        Due.is("caught ahead of STEP n", 15, x.best(8, 0, 9, true, true, 0));
        Due.is("MISSED ahead of STEP n", -13, x.best(8, 1, 9, true, true, 0));
        for (int t = 0; t <= 8; t++) {
            Due.is("nothing to do", -1, x.best(t, 0, 0, false, false, 1));
        }
        Due.is("nothing to do ahead of STEP n", -1, x.best(8, 1, 0, false, false, 1));
        Due.queue(x, "pppa");
        Due.is("p of STEP n", -15, x.best(8, 1, 9, true, true, 0));
        Due.is("l of the STATE", -400, x.best(7, 2, 0, false, false, 0));
        Due.is("lets it go", 0, x.best(7, 2, 0, false, false, 1));
    }

    private static void likeActions() {
        RunForIt x = new RunForIt();
        x.steps(1);
        Due.law(x, "m3(1=1);l3(1=1)");
        Due.is("of like ones 0", 0, x.best(0, 9, 9, false, false, 1));
        Due.law(x, "m3(1=1);l4(1=1)");
        Due.is("of like ones 1", 1, x.best(0, 9, 9, false, false, 1));
        Due.law(x, "m3(1=1);l4(1=1);w9(k=1)");
        Due.is("1 may not be", 2, x.best(0, 9, 8, false, false, 1));
        Due.law(x, "m3(1=1);l4(1=1);w9(a=0)");
        Due.is("a wave alone may be", 5, x.best(0, 9, 8, false, false, 1));
        Due.law(x, "y9(k=2);v1(1=1);m3(1=1);l4(1=1)");
        Due.is("2 ahead of 6", 2, x.best(0, 9, 9, false, false, 1));
        Due.law(x, "y9(k=3&a=1);v1(1=1);m3(1=1);l4(1=1)");
        Due.is("7", 7, x.best(0, 9, 9, false, false, 1));
        Due.is("its VALUE", 100, x.best(0, 9, 9, false, false, 0));
        Due.law(x, "y9(1=1);w1(1=1);v0(1=1);l0(1=1)");
        Due.is("like letting go", 0, x.best(0, 9, 9, false, false, 1));
    }

    /** All by hand: from 10 YARDS; by 4 tenths SEEN; it goes by 3 tenths, SEEN by 1. */
    private static void tenths() {
        RunForIt x = new RunForIt();
        x.steps(2);
        Due.law(x, "y5(1=1);s4(1=1);g1(z=1);g3(1=1);v50(1=1);m20(z=1);m10(1=1);l99(1=1)");
        // SEEN 4 tenths: 1 tenth -20, 9 tenths 50; not SEEN 6 tenths: 3 tenths -10, 7 tenths 50; last STEP surely 50
        Due.is("VALUE", 100 * (4 * (1 * -20 + 9 * 50) + 6 * (3 * -10 + 7 * 50)), x.best(0, 10, 9, false, false, 0));
        Due.is("SEEN", 100 * 10 * (1 * -20 + 9 * 50), x.best(0, 10, 9, true, false, 0));
        Due.is("last STEP", 5000, x.best(1, 5, 9, false, false, 0));
        // 11 YARDS: never there; behind STEP 1 m again, by all of the tenths
        long seen = 100 * -20;
        long not = 4 * 10 * -20 + 6 * 10 * -10;
        Due.is("last STEP from 6", not, x.best(1, 6, 9, false, false, 0));
        Due.is("last STEP from 6, SEEN", seen, x.best(1, 6, 9, true, false, 0));
        Due.is("from 11", 4 * (100 * -20 + 9 * seen) + 6 * (300 * -10 + 7 * not), x.best(0, 11, 9, false, false, 0));
    }

    /** One tenth and nine, of SEEN and of going. */
    private static void oneTenth() {
        RunForIt x = new RunForIt();
        x.steps(1);
        for (int s : new int[] {0, 1, 9, 10}) {
            Due.law(x, "y9(1=1);s" + s + "(1=1);v10+z*40+t*5(1=1);l99(1=1);g5(1=1)");
            Due.is("caught, SEEN by " + s, 10L * (s * 50 + (10 - s) * 10), x.best(0, 9, 0, false, false, 0));
            Due.law(x, "s" + s + "(1=1);m10+z*40(1=1);l99(1=1)");
            Due.is("MISSED, SEEN by " + s, -10L * (s * 50 + (10 - s) * 10), x.best(0, 9, 0, false, false, 0));
            Due.law(x, "g" + s + "(1=1);m10+t*40(1=1);l99(1=1)");
            Due.is("goes by " + s, -10L * (s * 10 + (10 - s) * 50), x.best(0, 9, 0, false, false, 0));
        }
    }

    /** v, m and l know neither pace nor wave, behind which ACTION ever. */
    private static void worthsKnowNoPace() {
        RunForIt x = new RunForIt();
        x.steps(1);
        Due.law(x, "w9(k<3);w9(a=0);y9(d<10);v20+k+a(1=1);m20+k+a(1=1);l99(1=1);g10(d<12)");
        Due.is("ACTION", 7, x.best(0, 9, 8, false, false, 1));
        Due.is("v", 2000, x.best(0, 9, 8, false, false, 0));
        Due.is("m in the STEP", -2000, x.best(0, 11, 8, false, false, 0));
        Due.is("m ahead of STEP n", -2000, x.best(0, 12, 8, false, false, 0));
        Due.law(x, "w9(1=1);l20+k+a(1=1)");
        Due.is("l", -2000, x.best(0, 9, 8, false, false, 0));
    }

    /** v and m with t as it was, with n ahead of STEP n; of the STATE as it is then. */
    private static void stepOfTheWorths() {
        RunForIt x = new RunForIt();
        x.steps(3);
        Due.law(x, "y9(1=1);vt*10+1+e(1=1);l99(1=1)");
        Due.is("caught in STEP 0", 1000000L, x.best(0, 9, 0, false, false, 0));
        Due.is("caught in STEP 1", 11000000L, x.best(0, 18, 0, false, false, 0));
        Due.is("caught in STEP 2", 21000000L, x.best(0, 27, 0, false, false, 0));
        Due.is("ahead of STEP 3", 31, x.best(3, 0, 0, false, false, 0));
        Due.law(x, "g5(1=1);m10+t(1=1);l99(1=1)");
        // half -10, else half -11, else half -12, else -13
        Due.is("m by STEPS", -(10 * 4 + 11 * 2 + 12 + 13) * 1000000L / 8, x.best(0, 9, 0, false, false, 0));
        x.steps(1);
        Due.law(x, "y1(1=1);w1(k=3&a=1);w9(1=1);b2(1=1);s10(1=1);g10(1=1);me*10+z*3+r+d(1=1);l99(1=1)");
        Due.is("m of the STATE behind", -(6 * 10 + 3 + 1 + 4) * 100L, x.best(0, 5, 5, false, false, 0));
    }

    private static void greatest() {
        RunForIt x = new RunForIt();
        x.steps(8);
        Due.law(x, "y99(1=1);v99(1=1);l99(1=1);m99(1=1)");
        Due.is("greatest", 990000000000000000L, x.best(0, 99, 0, false, false, 0));
        Due.is("least but one", 990000000000000000L, x.best(0, 120, 0, false, false, 0));
        Due.law(x, "l99(1=1);m99(1=1)");
        Due.is("least", -990000000000000000L, x.best(0, 120, 0, false, false, 0));
        Due.is("and let go", 0, x.best(0, 120, 0, false, false, 1));
    }

    /** What is known of a STATE is not taken for another one: nothing but letting go may be, each at a cost of its own. */
    private static void eachStateByItself() {
        RunForIt x = new RunForIt();
        x.steps(8);
        Due.law(x, "w9(1=1);l[d*7+e*5+z*3+r*11+t*13]%97(1=1)");
        for (int yards : new int[] {1, 2, 119, 120}) {
            for (int i = 0; i < 12 * 8; i++) {
                int t = i % 8;
                int breath = i / 8 / 4 * 4;
                int seen = i / 8 % 2;
                int ran = i / 16 % 2;
                long due = -((yards * 7 + breath * 5 + seen * 3 + ran * 11 + t * 13) % 97);
                for (int left = t; left < 8; left++) {
                    due *= 100;
                }
                Due.is("STEP " + t + ", " + yards + " YARDS", due, x.best(t, yards, breath, seen == 1, ran == 1, 0));
            }
        }
    }

    /** What is known falls with all by which it was reckoned. */
    private static void changes() {
        RunForIt x = new RunForIt();
        x.steps(2);
        Due.queue(x, "a");
        Due.law(x, LAW);
        Due.is("VALUE", 370200, x.best(0, 40, 9, false, false, 0));
        Due.is("a FAULT changes nothing", -1000, Due.law(x, "?"));
        Due.is("VALUE", 370200, x.best(0, 40, 9, false, false, 0));
        Due.queue(x, "p");
        Due.is("longer BOARDING: runs and is there", 500000, x.best(0, 40, 9, false, false, 0));
        Due.queue(x, "a");
        Due.is("VALUE", 370200, x.best(0, 40, 9, false, false, 0));
        x.steps(1);
        Due.is("one STEP: 9 whatever he does but run", -900, x.best(0, 40, 9, false, false, 0));
        x.keep();
        x.steps(2);
        Due.is("VALUE", 370200, x.best(0, 40, 9, false, false, 0));
        x.undo();
        Due.is("UNDONE", -900, x.best(0, 40, 9, false, false, 0));
        x.steps(2);
        Due.law(x, LAW.replace("v50", "v50-q*5"));
        Due.is("a flat street", 370200, x.best(0, 40, 9, false, false, 0));
        Due.street(x, "40s");
        Due.is("on steps v is 35", 370200 - 15 * 7800, x.best(0, 40, 9, false, false, 0));
    }

    /** What is known without waves or with longer BOARDING does not hold for BEST behind a change. */
    private static void changesBehindMore() {
        RunForIt x = new RunForIt();
        x.steps(2);
        Due.queue(x, "a");
        for (int i = 0; i < 12; i++) {
            int worth = 50 - i % 2;
            Due.law(x, BestTest.LAW.replace("v50", "v" + worth));
            Due.is("VALUE", 370200 - 7800 * (i % 2), x.best(0, 40, 9, false, false, 0));
            if (i % 3 > 0) {
                Due.is("a WAVE", 118000 - 2000 * (i % 2), x.more(40, 9, false, false, 0));
            }
            if (i % 4 > 0) {
                Due.is("a STEP more", 129800 - 2200 * (i % 2), x.more(40, 9, false, false, 1));
            }
        }
    }

    private static void point() {
        RunForIt x = new RunForIt();
        x.steps(2);
        Due.queue(x, "a");
        Due.law(x, LAW);
        Due.is("never lets it go", 120, x.point(1, 9, false, false, 0));
        Due.is("runs from 30", 30, x.point(1, 9, false, false, 1));
        Due.is("runs from 60", 60, x.point(0, 9, true, false, 1));
        Due.law(x, LAW.replace("l12", "l0"));
        Due.is("lets it go from 31 on", 30, x.point(1, 9, false, false, 0));
        Due.is("BREATH 1: goes quickly from 20", 20, x.point(1, 1, false, false, 0));
        Due.is("BREATH 1: does not run", -2, x.point(1, 1, false, false, 1));
        Due.law(x, "v0(1=1)");
        Due.is("from none", -2, x.point(0, 9, false, false, 0));
        Due.is("from none", -2, x.point(0, 9, false, false, 1));
        Due.law(x, "y9(k=3&a=1&d=50);v5(1=1);m9(d=41);g10(1=1);y99(k=3&a=1&d=120);y99(k=3&d=7)");
        Due.is("waving, too", 7, x.point(1, 9, false, false, 1));
        Due.law(x, "y99(k=3&a=1&d=99|k=2&d=98);v5(1=1)");
        Due.is("waving, too", 99, x.point(1, 9, false, false, 1));
        Due.is("not from above it", 99, x.point(1, 9, false, false, 0));
        Due.law(x, "y1(k=3);v5(1=1)");
        Due.is("from one YARD", 1, x.point(1, 9, false, false, 0));
        Due.is("from one YARD", 1, x.point(1, 9, false, false, 1));
        Due.law(x, "y99(k=2&d=98);v5(1=1)");
        Due.is("quickly is no running", -2, x.point(1, 9, false, false, 1));
    }

    private static void more() {
        RunForIt x = new RunForIt();
        x.steps(2);
        Due.queue(x, "a");
        Due.law(x, LAW);
        for (int i = 0; i < 2; i++) {
            Due.is("a WAVE", 118000, x.more(40, 9, false, false, 0));
            Due.is("a STEP more", 129800, x.more(40, 9, false, false, 1));
            Due.is("VALUE as it was", 370200, x.best(0, 40, 9, false, false, 0));
            Due.is("ACTION as it was", 5, x.best(0, 40, 9, false, false, 1));
        }
        Due.is("caught", 0, x.more(0, 9, false, false, 0));
        Due.is("caught", 0, x.more(0, 9, false, false, 1));
        Due.is("SEEN a WAVE is worth nothing", 0, x.more(40, 9, true, false, 0));
        x.steps(1);
        Due.queue(x, "a");
        Due.law(x, "g10(1=1);m10-p*3(t=0);l99(1=1)");
        // in STEP 0 it goes at a cost of 7; with BOARDING 1 more not before STEP 1, where m is 0
        Due.is("p of the same QUEUE", 700, x.more(5, 0, false, false, 1));
        wavesAndPace(x);
        longerBoarding(x);
    }

    private static void wavesAndPace(RunForIt x) {
        Due.law(x, "y9(k=3&a=0);y9(a=1&e=1);v5(1=1)");
        Due.is("without waves he may run", 0, x.more(5, 0, false, false, 0));
        Due.is("without waves he may run", 0, x.more(5, 1, false, false, 0));
        Due.law(x, "y9(k=1&a=1);v5(1=1);m7(1=1);l2(1=1)");
        Due.is("without a wave he lets it go", 700, x.more(5, 0, false, false, 0));
        Due.is("with a STEP more he waves as before", 0, x.more(5, 0, false, false, 1));
        Due.is("and a WAVE is worth as much behind that", 700, x.more(5, 0, false, false, 0));
    }

    /** With B 2 it goes in STEP 1, with a STEP more in STEP 2, with two more in STEP 3. */
    private static void longerBoarding(RunForIt x) {
        x.steps(4);
        Due.queue(x, "c");
        Due.law(x, "g10(1=1);m90-t*30(1=1);l99(1=1)");
        Due.is("one STEP more, not two", 3000000000L, x.more(5, 0, false, false, 1));
        Due.law(x, "g10(1=1);m90-t*20(1=1);l99(1=1)");
        Due.is("B as it was behind that", -7000000000L, x.best(0, 5, 0, false, false, 0));
        Due.is("it does not go in STEP 0", 0, x.after(0, 5, 0, false, false, 1, 3));
        Due.is("and does in STEP 1", 10, x.after(1, 5, 0, false, false, 1, 3));
        Due.queue(x, "");
        Due.is("B 0 and 1 are alike", 0, x.more(5, 0, false, false, 1));
        Due.queue(x, "ppppppppp");
        Due.is("beyond the last STEP", 0, x.more(5, 0, false, false, 1));
    }

    private static void wrongInputs() {
        RunForIt x = new RunForIt();
        x.steps(3);
        int[][] states = {{-1, 0}, {121, 0}, {0, -1}, {0, 10}};
        for (int[] s : states) {
            Due.is("best", NO_VALUE, x.best(0, s[0], s[1], false, false, 0));
            Due.is("more", NO_VALUE, x.more(s[0], s[1], false, false, 0));
        }
        Due.is("point", -1, x.point(0, -1, false, false, 0));
        Due.is("point", -1, x.point(0, 10, false, false, 0));
        for (int t : new int[] {-1, 4, Integer.MIN_VALUE}) {
            Due.is("best", NO_VALUE, x.best(t, 1, 1, false, false, 0));
            Due.is("point", -1, x.point(t, 1, false, false, 0));
        }
        Due.is("THE POINT ahead of STEP n", -1, x.point(3, 1, false, false, 0));
        for (int what : new int[] {-1, 2}) {
            Due.is("best", NO_VALUE, x.best(0, 1, 1, false, false, what));
            Due.is("more", NO_VALUE, x.more(1, 1, false, false, what));
            Due.is("point", -1, x.point(0, 1, false, false, what));
        }
    }
}
