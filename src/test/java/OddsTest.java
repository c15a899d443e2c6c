/** Promises 17 to 19: LEAVES, OVER THE CHURCHYARD, HAD HE SEEN ME. */
final class OddsTest {
    private OddsTest() {
    }

    public static void main(String[] args) {
        leaves();
        over();
        hadSeen();
        noSuchOdds();
        wrongInputs();
        Due.end();
    }

    private static void leaves(RunForIt x, int j, long above, long below) {
        Due.is("leaves " + j + " above", above, x.leaves(j, 40, 9, false, true, 0));
        Due.is("leaves " + j + " below", below, x.leaves(j, 40, 9, false, true, 1));
    }

    private static void leaves() {
        RunForIt x = new RunForIt();
        x.steps(4);
        Due.queue(x, "c");
        Due.law(x, "g4(t=1&d=40&e=9&z=0&r=1);g5(t=2&k=0&a=0);g10(t=9);g0(1=1)");
        leaves(x, 0, 0, 1);
        leaves(x, 1, 2, 5);
        leaves(x, 2, 3, 10);
        leaves(x, 3, 0, 1);
        leaves(x, 4, 3, 10);
        Due.is("SEEN", 1, x.leaves(2, 40, 9, true, true, 0));
        Due.is("SEEN", 2, x.leaves(2, 40, 9, true, true, 1));
        Due.queue(x, "o");
        leaves(x, 1, 0, 1);
        leaves(x, 2, 1, 2);
        Due.law(x, "g10(t=2)");
        leaves(x, 2, 1, 1);
        leaves(x, 3, 0, 1);
        leaves(x, 4, 0, 1);
        x.steps(8);
        Due.queue(x, "");
        Due.law(x, "g1(1=1)");
        leaves(x, 0, 1, 10);
        long ninths = 1;
        long tens = 10;
        for (int j = 0; j < 8; j++) {
            leaves(x, j, ninths, tens);
            ninths *= 9;
            tens *= 10;
        }
        leaves(x, 7, 4782969, 100000000);
        leaves(x, 8, 43046721, 100000000);
        Due.law(x, "g3(d=0)");
        Due.is("with 0 YARDS likewise", 3, x.leaves(0, 0, 0, false, false, 0));
    }

    private static void over(RunForIt x, int far, int each, int ride, long above, long below) {
        Due.is("over " + far + " " + each + " " + ride, above, x.over(far, each, ride, 40, 9, false, false, 0));
        Due.is("over " + far + " " + each + " " + ride, below, x.over(far, each, ride, 40, 9, false, false, 1));
    }

    /** It goes in STEP 0 by 1/2, in STEP 1 by 1/4, in what would be STEP 2 by 1/4. */
    private static void over() {
        RunForIt x = new RunForIt();
        x.steps(2);
        Due.queue(x, "a");
        Due.law(x, "g5(1=1)");
        over(x, 30, 10, 3, 1, 1);
        over(x, 31, 10, 3, 1, 2);
        over(x, 30, 10, 2, 1, 2);
        over(x, 30, 10, 1, 1, 4);
        over(x, 30, 10, 0, 0, 1);
        over(x, 20, 10, 0, 1, 4);
        over(x, 10, 10, 0, 1, 2);
        over(x, 1, 99, 0, 1, 2);
        over(x, 1, 99, 1, 1, 1);
        over(x, 999, 1, 20, 0, 1);
        over(x, 22, 1, 20, 1, 4);
        over(x, 23, 1, 20, 0, 1);
        over(x, 999, 99, 10, 1, 2);
        x.steps(3);
        Due.law(x, "g2(1=1)");
        over(x, 20, 10, 0, 16, 25);
        over(x, 20, 10, 1, 4, 5);
    }

    private static void hadSeen(RunForIt x, int action, int j, long above, long below) {
        Due.is("hadSeen " + action + " " + j, above, x.hadSeen(40, 9, action, j, 0));
        Due.is("hadSeen " + action + " " + j, below, x.hadSeen(40, 9, action, j, 1));
    }

    private static void hadSeen() {
        RunForIt x = new RunForIt();
        x.steps(3);
        Due.law(x, "y10(1=1);s2+5*a(1=1);g5(z=0);g1(1=1)");
        hadSeen(x, 1, 1, 9, 29);
        hadSeen(x, 5, 1, 21, 26);
        // 18 and 40 of 100; then (180 + 80) * 9 and 320 * 5 of 10000
        hadSeen(x, 1, 2, 2340 / 20, (2340 + 1600) / 20);
        // (23400 + 3200) * 9 and 12800 * 5
        hadSeen(x, 2, 3, 239400 / 200, (239400 + 64000) / 200);
        Due.queue(x, "c");
        hadSeen(x, 1, 1, 1, 5);
        hadSeen(x, 1, 2, 81, 81 + 80);
        Due.law(x, "y10(1=1)");
        hadSeen(x, 1, 3, 0, 1);
        Due.law(x, "y10(1=1);s10(1=1)");
        hadSeen(x, 1, 3, 1, 1);
        Due.queue(x, "");
        // his way goes on as if he were not SEEN; g by whether he is; he has RUN with pace 3
        Due.law(x, "y10-z*10(1=1);s5(t=0);g5(d=20&r=1&z=1);g0(1=1)");
        hadSeen(x, 3, 1, 1, 2);
        hadSeen(x, 3, 2, 1, 3);
        hadSeen(x, 2, 2, 1, 2);
        Due.law(x, "y10(1=1);s5(t=0);g10(z=0)");
        hadSeen(x, 1, 1, 1, 1);
    }

    private static void noSuchOdds() {
        RunForIt x = new RunForIt();
        x.steps(3);
        Due.law(x, "y10(1=1);w3(1=1);g10(1=1)");
        Due.is("it has surely gone", -2, x.hadSeen(40, 9, 1, 1, 0));
        Due.is("it has surely gone", -2, x.hadSeen(40, 9, 1, 3, 1));
        Due.is("caught in STEP 2", -3, x.hadSeen(30, 9, 1, 3, 0));
        Due.is("not yet", -2, x.hadSeen(30, 9, 1, 2, 0));
        Due.is("no BREATH in STEP 2", -3, x.hadSeen(40, 8, 1, 3, 0));
        Due.is("not yet", -2, x.hadSeen(40, 8, 1, 2, 0));
        Due.is("caught before", -3, x.hadSeen(0, 9, 1, 1, 0));
        Due.is("not RUN at first", -2, x.hadSeen(40, 9, 7, 1, 0));
    }

    private static void wrongInputs() {
        RunForIt x = new RunForIt();
        x.steps(3);
        int[][] states = {{-1, 0}, {121, 0}, {0, -1}, {0, 10}};
        for (int[] s : states) {
            Due.is("leaves", -1, x.leaves(0, s[0], s[1], false, false, 0));
            Due.is("over", -1, x.over(1, 1, 0, s[0], s[1], false, false, 0));
            Due.is("hadSeen", -1, x.hadSeen(s[0], s[1], 1, 1, 0));
        }
        for (int what : new int[] {-1, 2}) {
            Due.is("leaves", -1, x.leaves(0, 5, 5, false, false, what));
            Due.is("over", -1, x.over(1, 1, 0, 5, 5, false, false, what));
            Due.is("hadSeen", -1, x.hadSeen(5, 5, 1, 1, what));
        }
        Due.is("leaves -1", -1, x.leaves(-1, 5, 5, false, false, 0));
        Due.is("leaves n", 1, x.leaves(3, 5, 5, false, false, 0));
        Due.is("leaves n + 1", -1, x.leaves(4, 5, 5, false, false, 0));
        int[][] overs = {{0, 1, 0}, {1000, 1, 0}, {1, 0, 0}, {1, 100, 0}, {1, 1, -1}, {1, 1, 21}};
        for (int[] o : overs) {
            Due.is("over", -1, x.over(o[0], o[1], o[2], 5, 5, false, false, 0));
        }
        int[][] seen = {{0, 1}, {4, 1}, {8, 1}, {-1, 1}, {1, 0}, {1, 4}, {1, -1}};
        for (int[] s : seen) {
            Due.is("hadSeen", -1, x.hadSeen(5, 5, s[0], s[1], 0));
        }
        Due.is("NONE ahead of -3", -1, x.hadSeen(0, 5, 1, 4, 0));
    }
}
