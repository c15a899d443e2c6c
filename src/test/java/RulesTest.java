/** Promises 11 and 16: BY A RULE, and NEAR. */
final class RulesTest {
    private static final long NO_VALUE = -2000000000000000000L;

    private RulesTest() {
    }

    public static void main(String[] args) {
        ends();
        actions();
        shares();
        seenOnTheWay();
        seenInAnyStep();
        oneTenth();
        worths();
        near();
        wrongInputs();
        Due.end();
    }

    private static void by(String what, RunForIt x, int t, int yards, int breath, long value, long caught, long missed,
            long letGo) {
        Due.is(what + ": VALUE", value, x.by(0, t, yards, breath, false, false, 0));
        Due.is(what + ": caught", caught, x.by(0, t, yards, breath, false, false, 1));
        Due.is(what + ": MISSED", missed, x.by(0, t, yards, breath, false, false, 2));
        Due.is(what + ": let go", letGo, x.by(0, t, yards, breath, false, false, 3));
    }

    private static void ends() {
        RunForIt x = new RunForIt();
        x.steps(3);
        Due.law(x, "v7+t(1=1);m5+t(1=1);l2+t(1=1);y1(1=1)");
        Due.rule(x, 0, "a1(t<2)");
        by("caught ahead of STEP 1", x, 1, 0, 0, 80000, 10000, 0, 0);
        by("caught ahead of STEP n", x, 3, 0, 0, 10, 1, 0, 0);
        by("MISSED ahead of STEP n", x, 3, 1, 0, -8, 0, 1, 0);
        by("caught in STEP 1", x, 0, 2, 0, 8000000, 1000000, 0, 0);
        by("let go in STEP 2", x, 0, 3, 0, -4000000, 0, 0, 1000000);
        Due.is("STEP n", -1, x.by(0, 3, 5, 0, false, false, 4));
        Due.is("caught", -1, x.by(0, 1, 0, 0, false, false, 4));
        Due.is("its ACTION", 1, x.by(0, 1, 5, 0, false, false, 4));
        Due.is("none holds: 0", 0, x.by(0, 2, 5, 0, false, false, 4));
        Due.rule(x, 0, "a1(1=1)");
        by("MISSED ahead of STEP n", x, 0, 4, 0, -8000000, 0, 1000000, 0);
    }

    private static void actions() {
        RunForIt x = new RunForIt();
        Due.law(x, "w3*k(1=1);y1(1=1)");
        String[] texts = {"a0(1=1)", "a1(1=1)", "a2(1=1)", "a3(1=1)", "a4(1=1)", "a5(1=1)", "a6(1=1)", "a7(1=1)",
            "a8(1=1)", "a99999(1=1)", "a0-1(1=1)", "a1/0(1=1);a1(1=1)", "a1(1/0=1);a2(1=1)", "a1(1=2)", "a7(d>9);a5(1=1)",
            "ae/3(1=1)", "a9-8(e=6)"};
        int[] due = {0, 1, 2, 0, 0, 5, 6, 0, 0, 0, 0, 0, 2, 0, 5, 2, 1};
        for (int i = 0; i < texts.length; i++) {
            Due.is("rule " + texts[i], texts[i].indexOf(';') < 0 ? 1 : 2, Due.rule(x, 3, texts[i]));
            Due.is("ACTION by " + texts[i], due[i], x.by(3, 2, 9, 6, true, false, 4));
        }
        Due.rule(x, 0, "a1(t=1&n=6&d=9&e=6&z=1&r=0&p=2&q=3)");
        Due.street(x, "3f,6s,2u");
        Due.queue(x, "aoo");
        Due.is("another KIND", 0, x.by(0, 1, 9, 6, true, false, 4));
        Due.street(x, "2s,7s,2u");
        Due.is("all letters", 1, x.by(0, 1, 9, 6, true, false, 4));
        Due.is("another STEP", 0, x.by(0, 0, 9, 6, true, false, 4));
        Due.is("not SEEN", 0, x.by(0, 1, 9, 6, false, false, 4));
        Due.is("RUN", 0, x.by(0, 1, 9, 6, true, true, 4));
    }

    /** Walks from 10 YARDS, 5 a STEP; the bus goes by 3 tenths; lets it go in the last STEP. */
    private static void shares() {
        RunForIt x = new RunForIt();
        x.steps(3);
        Due.law(x, "y4(1=1);g3(1=1);v50(1=1);m20(1=1);l9(1=1)");
        Due.rule(x, 0, "a1(t<2);a0(1=1)");
        by("two STEPS", x, 0, 8, 0, 10000L * (70 * 50 - 30 * 20), 700000, 300000, 0);
        by("three STEPS", x, 0, 12, 0, 10000L * (-51 * 20 - 49 * 9), 0, 510000, 490000);
        by("from STEP 1", x, 1, 12, 0, 100L * (-30 * 20 - 70 * 9), 0, 3000, 7000);
        Due.law(x, "y4(1=1);g10(1=1);v50(1=1);m20(1=1);l9(1=1)");
        by("it surely goes", x, 0, 8, 0, -20000000, 0, 1000000, 0);
    }

    /** By 4 tenths he is SEEN in a STEP; SEEN it waits, and he walks on; else he lets it go. */
    private static void seenOnTheWay() {
        RunForIt x = new RunForIt();
        x.steps(2);
        Due.law(x, "y4(1=1);s4(t=0);g5(z=0);v50(1=1);m20(1=1);l9(1=1)");
        Due.rule(x, 0, "a2(t=0|z=1)");
        // 4 tenths: caught; else 5 tenths MISSED, else let go
        by("SEEN or not", x, 0, 8, 0, 100L * (40 * 50 - 30 * 20 - 30 * 9), 4000, 3000, 3000);
        Due.is("SEEN from the begin", 10000, x.by(0, 0, 8, 0, true, false, 1));
    }

    /** As many STEPS as there can be; in each of them he may be SEEN for the first time, at a BREATH of its own. */
    private static void seenInAnyStep() {
        RunForIt x = new RunForIt();
        x.steps(8);
        Due.law(x, "s1(1=1);y1(z=0);w1(z=1);m10(z=0);m20+e(1=1)");
        Due.rule(x, 0, "a1(1=1)");
        // SEEN in STEP j by 1 tenth: 98 - j YARDS left, and 7 - j STEPS more, each of which takes 1 of 9 BREATH
        long all = 100000000;
        long share = all / 10;
        long cost = 0;
        long yards = 0;
        for (int j = 0; j < 8; j++) {
            cost += share * (20 + 9 - (7 - j));
            yards += share * (98 - j);
            share = share / 10 * 9;
        }
        cost += 43046721L * 10;
        yards += 43046721L * 91;
        Due.is("VALUE", -cost * all, x.by(0, 0, 99, 9, false, false, 0));
        Due.is("MISSED", all * all, x.by(0, 0, 99, 9, false, false, 2));
        Due.is("near", true, x.near(0, 99, 9, false, false, 0) * all == yards * x.near(0, 99, 9, false, false, 1));
    }

    private static void oneTenth() {
        RunForIt x = new RunForIt();
        x.steps(1);
        Due.rule(x, 0, "a1(1=1)");
        for (int tenths : new int[] {1, 9}) {
            Due.law(x, "s" + tenths + "(1=1);m20+z*30(1=1)");
            Due.is("SEEN by " + tenths, -10L * (tenths * 50 + (10 - tenths) * 20), x.by(0, 0, 9, 9, false, false, 0));
            Due.law(x, "g" + tenths + "(1=1);m20+t*30(1=1)");
            Due.is("goes by " + tenths, -10L * (tenths * 20 + (10 - tenths) * 50), x.by(0, 0, 9, 9, false, false, 0));
            Due.is("surely MISSED", 100, x.by(0, 0, 9, 9, false, false, 2));
        }
    }

    /** v, m and l know neither pace nor wave. */
    private static void worths() {
        RunForIt x = new RunForIt();
        x.steps(1);
        Due.law(x, "y5(1=1);vk+a+6(1=1);mk+a+7(1=1);lk+a+8(1=1);gk+a(d=3);g10(1=1)");
        Due.rule(x, 0, "a7(d<9)");
        Due.is("v", 600, x.by(0, 0, 5, 0, false, false, 0));
        Due.is("v ahead of a STEP", 600, x.by(0, 0, 0, 0, false, false, 0));
        Due.is("m", -700, x.by(0, 0, 6, 0, false, false, 0));
        Due.is("m ahead of STEP n", -700, x.by(0, 0, 8, 0, false, false, 0));
        Due.is("l", -800, x.by(0, 0, 9, 0, false, false, 0));
    }

    private static void near() {
        RunForIt x = new RunForIt();
        x.steps(3);
        Due.law(x, "y4(1=1);g3(1=1)");
        Due.rule(x, 2, "a1(1=1)");
        // from 14: 10 left by 3 tenths, 6 by 7 * 3 hundredths, else 2 by 49 hundredths (in STEP 2 or ahead of STEP n)
        Due.is("above", (10 * 30 + 6 * 21 + 2 * 49) / 4, x.near(2, 14, 0, false, false, 0));
        Due.is("below", 25, x.near(2, 14, 0, false, false, 1));
        // from 12: 8 by 30, 4 by 21 of 51
        Due.is("above", (8 * 30 + 4 * 21) / 3, x.near(2, 12, 0, false, false, 0));
        Due.is("below", 17, x.near(2, 12, 0, false, false, 1));
        Due.is("caught", -2, x.near(2, 4, 0, false, false, 0));
        Due.is("caught", -2, x.near(2, 0, 0, false, false, 1));
        Due.rule(x, 2, "a0(1=1)");
        Due.is("let go", -2, x.near(2, 14, 0, false, false, 0));
        Due.law(x, "y1(1=1)");
        Due.rule(x, 2, "a1(1=1)");
        Due.is("ahead of STEP n", 7, x.near(2, 10, 0, false, false, 0));
        Due.is("ahead of STEP n", 1, x.near(2, 10, 0, false, false, 1));
    }

    private static void wrongInputs() {
        RunForIt x = new RunForIt();
        x.steps(3);
        Due.is("not told", NO_VALUE, x.by(0, 0, 5, 5, false, false, 0));
        Due.is("not told", NO_VALUE, x.by(0, 0, 5, 5, false, false, 4));
        Due.is("not told", -1, x.near(0, 5, 5, false, false, 0));
        Due.rule(x, 0, "a1(1=1)");
        Due.rule(x, 1, "a1(1=1");
        Due.is("a FAULT tells none", NO_VALUE, x.by(1, 0, 5, 5, false, false, 0));
        int[][] wrong = {{-1, 0, 5, 5, 0}, {4, 0, 5, 5, 0}, {0, -1, 5, 5, 0}, {0, 4, 5, 5, 0}, {0, 0, -1, 5, 0},
            {0, 0, 121, 5, 0}, {0, 0, 5, -1, 0}, {0, 0, 5, 10, 0}, {0, 0, 5, 5, -1}, {0, 0, 5, 5, 5}};
        for (int[] w : wrong) {
            Due.is("by", NO_VALUE, x.by(w[0], w[1], w[2], w[3], false, false, w[4]));
            if (w[1] == 0) {
                Due.is("near", -1, x.near(w[0], w[2], w[3], false, false, w[4]));
            }
        }
        Due.is("near", -1, x.near(0, 5, 5, false, false, 2));
        Due.is("well told", 0, x.by(0, 0, 5, 5, false, false, 0));
    }
}
