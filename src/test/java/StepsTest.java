/** Promises 8 and 9: whether an ACTION may be, and what is behind it. */
final class StepsTest {
    private StepsTest() {
    }

    public static void main(String[] args) {
        may();
        wrongInputs();
        after();
        boarding();
        askedOfWhichState();
        Due.end();
    }

    private static void may() {
        RunForIt x = new RunForIt();
        Due.law(x, "w3*k+a*2-z(1=1)");
        int[] moves = {1, 2, 3, 5, 6, 7};
        int[] takes = {3, 6, 9, 5, 8, 9};
        for (int i = 0; i < moves.length; i++) {
            for (int breath = 0; breath <= 9; breath++) {
                Due.is("may " + moves[i] + " with " + breath, breath >= takes[i] ? 1 : 0,
                    x.may(5, 120, breath, false, true, moves[i]));
            }
        }
        Due.is("SEEN it takes less", 1, x.may(0, 1, 2, true, false, 1));
        Due.is("to let it go always may be", 1, x.may(0, 1, 0, false, false, 0));
        Due.law(x, "w9(1=1)");
        Due.is("to let it go always may be, whatever w is", 1, x.may(5, 1, 0, false, false, 0));
        Due.is("nothing else", 0, x.may(5, 1, 8, false, false, 1));
        Due.law(x, "w3*k+a*2-z(1=1)");
        Due.is("to where nothing is left", 1, x.may(0, 0, 3, false, false, 1));
        Due.is("to where nothing is left", 0, x.after(0, 0, 3, false, false, 1, 1));
        Due.is("with 0 YARDS, too", 0, x.may(0, 0, 2, false, false, 1));
    }

    private static void wrongInputs() {
        RunForIt x = new RunForIt();
        x.steps(3);
        int[][] wrong = {{-1, 0, 0, 1}, {3, 0, 0, 1}, {0, -1, 0, 1}, {0, 121, 0, 1}, {0, 0, -1, 1}, {0, 0, 10, 1},
            {0, 0, 0, -1}, {0, 0, 0, 4}, {0, 0, 0, 8}, {Integer.MIN_VALUE, Integer.MAX_VALUE, 0, 1}};
        for (int[] told : wrong) {
            Due.is("may", -1, x.may(told[0], told[1], told[2], false, false, told[3]));
            for (int what = -1; what <= 5; what++) {
                Due.is("after", -1, x.after(told[0], told[1], told[2], false, false, told[3], what));
            }
        }
        Due.is("after letting it go", -1, x.after(0, 5, 5, false, false, 0, 0));
        Due.is("no such what", -1, x.after(0, 5, 5, false, false, 1, -1));
        Due.is("no such what", -1, x.after(0, 5, 5, false, false, 1, 5));
        Due.law(x, "w9(1=1)");
        Due.is("NONE ahead of -2", -1, x.after(0, 5, 0, false, false, 1, 5));
        for (int what = 0; what < 5; what++) {
            Due.is("may not be", -2, x.after(2, 5, 8, true, true, 5, what));
        }
    }

    private static void after() {
        RunForIt x = new RunForIt();
        Due.law(x, "y7*k(1=1);wk(1=1);b2*k-1(1=1);s3+a*4(1=1);g2+z*5(1=1)");
        Due.is("YARDS", 26, x.after(0, 40, 5, false, false, 2, 0));
        Due.is("BREATH less, then more", 6, x.after(0, 40, 5, false, false, 2, 1));
        Due.is("BREATH 9 at most", 9, x.after(0, 40, 9, false, false, 3, 1));
        Due.is("SEEN by s", 3, x.after(0, 40, 9, false, false, 3, 2));
        Due.is("SEEN by s with a wave", 7, x.after(0, 40, 9, false, false, 7, 2));
        Due.is("he is SEEN", 10, x.after(0, 40, 9, true, false, 7, 2));
        Due.is("goes, not SEEN", 2, x.after(0, 40, 9, true, false, 7, 3));
        Due.is("goes, SEEN", 7, x.after(0, 40, 9, false, false, 7, 4));
        Due.is("0 YARDS at least", 0, x.after(0, 20, 9, false, false, 3, 0));
        Due.is("caught", -1, x.after(0, 21, 9, false, false, 3, 3));
        Due.is("caught", -1, x.after(0, 20, 9, false, false, 3, 4));
        Due.is("not caught", 2, x.after(0, 22, 9, false, false, 3, 3));
        Due.is("no BREATH", -2, x.after(0, 22, 2, false, false, 3, 3));
        Due.is("just enough BREATH", 5, x.after(0, 22, 3, false, false, 3, 1));
    }

    private static void boarding() {
        RunForIt x = new RunForIt();
        Due.law(x, "g9(1=1)");
        Due.queue(x, "p");
        for (int t = 0; t < 6; t++) {
            Due.is("goes in STEP " + t, t < 3 ? 0 : 9, x.after(t, 5, 5, false, false, 1, 3));
            Due.is("goes in STEP " + t, t < 3 ? 0 : 9, x.after(t, 5, 5, false, false, 1, 4));
        }
        Due.queue(x, "");
        Due.is("nobody gets on", 9, x.after(0, 5, 5, false, false, 1, 3));
    }

    /** y w b s ahead of it, g of what is behind it, t as it was. */
    private static void askedOfWhichState() {
        RunForIt x = new RunForIt();
        Due.street(x, "5w,5u");
        Due.law(x, "y5(1=1);w2(1=1);b1(q=2);s6(d=10&e=5&q=2&r=0);s1(1=1);g8(d=5&e=4&q=1&r=1&t=2&z=0);g3(1=1)");
        Due.is("s of the STATE ahead", 6, x.after(2, 10, 5, false, false, 3, 2));
        Due.is("b of the STATE ahead", 4, x.after(2, 10, 5, false, false, 3, 1));
        Due.is("g of the STATE behind", 8, x.after(2, 10, 5, false, false, 3, 3));
        Due.is("g if he is SEEN", 3, x.after(2, 10, 5, false, false, 3, 4));
        Due.is("g when he has not RUN", 3, x.after(2, 10, 5, false, false, 2, 3));
        Due.is("g when he had RUN", 8, x.after(2, 10, 5, false, true, 2, 3));
        Due.is("g in another STEP", 3, x.after(1, 10, 5, false, false, 3, 3));
    }
}
