/** Promises 28 to 30 and 32 to 34: THE BOOK, what is KEPT and UNDONE, CHECK. */
final class BookKeptTest {
    private BookKeptTest() {
    }

    public static void main(String[] args) {
        book();
        fits();
        manyTries();
        kept();
        check();
        Due.end();
    }

    private static void book() {
        RunForIt x = new RunForIt();
        for (int i = 1; i <= 60; i++) {
            Due.is("a TRY", i, x.tries(i % 3 == 0, i % 2 == 0));
        }
        Due.is("60 are there", -1, x.tries(true, true));
        Due.is("SEEN", 20, x.book(0));
        Due.is("waited", 10, x.book(1));
        Due.is("not SEEN", 40, x.book(2));
        Due.is("waited", 20, x.book(3));
        for (int what : new int[] {-1, 4, Integer.MIN_VALUE}) {
            Due.is("book " + what, -1, x.book(what));
        }
        Due.is("keeps them", 60, x.keep());
    }

    private static void fits() {
        RunForIt x = new RunForIt();
        Due.is("no TRIES: alike", 0, x.fits(0, 0, 10, 10));
        x.tries(true, true);
        Due.is("waited", 1, x.fits(6, 0, 5, 10));
        Due.is("waited", 2, x.fits(0, 10, 1, 0));
        Due.is("alike", 0, x.fits(7, 0, 7, 10));
        x.tries(true, false);
        Due.is("both: even is better", 1, x.fits(5, 0, 6, 0));
        Due.is("alike", 0, x.fits(4, 0, 6, 0));
        Due.is("sure of either is wrong", 0, x.fits(0, 0, 10, 0));
        x.tries(false, true);
        Due.is("not SEEN", 2, x.fits(5, 3, 5, 4));
        x.tries(false, false);
        x.tries(false, false);
        Due.is("a third", 1, x.fits(5, 3, 5, 4));
        Due.is("147 against 144", 1, x.fits(5, 3, 5, 4));
        Due.is("against each other", 2, x.fits(2, 3, 4, 3));
        // SEEN: one of two waited; not SEEN: one of three
        Due.is("3 * 7 * 7 against 4 * 6 * 6", 1, x.fits(2, 3, 2, 4));
        Due.is("3 * 7 * 7 against 1 * 9 * 9", 1, x.fits(5, 3, 5, 1));
        Due.is("1 * 9 * 9 against 7 * 3 * 3", 1, x.fits(5, 1, 5, 7));
        Due.is("6 * 4 * 4 against 1 * 9 * 9", 1, x.fits(5, 6, 5, 1));
        Due.is("0 of 10 for what was: less", 2, x.fits(0, 3, 5, 5));
        Due.is("10 of 10 for what was not: less", 2, x.fits(5, 10, 5, 5));
        Due.is("sure of either: 0, alike", 0, x.fits(10, 0, 0, 10));
        int[][] wrong = {{-1, 0, 0, 0}, {11, 0, 0, 0}, {0, -1, 0, 0}, {0, 11, 0, 0}, {0, 0, -1, 0}, {0, 0, 11, 0},
            {0, 0, 0, -1}, {0, 0, 0, 11}};
        for (int[] w : wrong) {
            Due.is("fits", -1, x.fits(w[0], w[1], w[2], w[3]));
        }
    }

    /** Products of 60 tenths do not go into a long, nor are near ones alike. */
    private static void manyTries() {
        RunForIt x = new RunForIt();
        for (int i = 0; i < 60; i++) {
            x.tries(true, true);
        }
        Due.is("10 to the 60th", 1, x.fits(10, 0, 9, 0));
        Due.is("10 to the 60th", 2, x.fits(9, 0, 10, 0));
        Due.is("alike", 0, x.fits(10, 3, 10, 9));
        x = new RunForIt();
        for (int i = 0; i < 60; i++) {
            x.tries(i < 40, i % 2 == 0);
        }
        // 4 to the 20th times 6 to the 20th both ways
        Due.is("alike", 0, x.fits(4, 5, 6, 5));
        Due.is("4 * 6 against 3 * 7", 1, x.fits(4, 3, 3, 3));
        Due.is("24 and 24 against 25 and 21", 1, x.fits(4, 4, 5, 1));
        // (24 / 25) to the 20th times (25 / 24) to the 10th
        Due.is("40 count more than 20", 2, x.fits(4, 5, 5, 4));
    }

    private static void kept() {
        RunForIt x = new RunForIt();
        Due.is("none was KEPT", false, x.undo());
        x.steps(3);
        x.seed(77);
        x.runner(0, 10, 5, 30);
        x.line(0, 1, 1, 0, 5);
        x.tries(true, true);
        x.tries(false, true);
        Due.street(x, "5u");
        Due.rule(x, 0, "a1(1=1)");
        Due.is("KEPT", 2, x.keep());
        x.steps(4);
        x.runner(0, 20, 5, 40);
        x.runner(1, 20, 5, 40);
        x.line(0, 2, 1, 0, 5);
        x.line(1, 1, 1, 0, 5);
        x.tries(true, false);
        Due.street(x, "6u");
        Due.queue(x, "a");
        Due.law(x, "y1(1=1)");
        Due.rule(x, 1, "a1(1=1)");
        x.drawn(0, 9, 9, false, false);
        x.feed(1, 2, 3, 4, 5);
        for (int i = 0; i < 2; i++) {
            Due.is("UNDONE", true, x.undo());
            Due.is("n", 3, x.count(0));
            Due.is("X", 77, x.count(6));
            Due.is("RUNNER 0", 30, x.wait(0, 120));
            Due.is("LINE 0", 1, x.which(0, 1, 0, 50, 0));
            Due.is("LINE 1", -1, x.which(1, 1, 0, 50, 0));
            Due.is("TRIES", 1, x.book(0));
            Due.is("TRIES", 1, x.book(3));
            Due.is("no LOG", 0, x.log(1));
            Due.is("THE STREET stays", 6, x.count(1));
            Due.is("THE QUEUE stays", 1, x.count(2));
            Due.is("THE LAW stays", 1, x.count(4));
            Due.is("RULES stay", 1, x.count(11));
            Due.is("the tape stays", 20, x.count(5));
            x.steps(8);
            x.seed(3);
            x.tries(true, false);
            x.runner(0, 9, 9, 9);
            x.line(0, 3, 0, 0, 0);
        }
        Due.is("KEPT anew", 3, x.keep());
        x.tries(true, false);
        x.undo();
        Due.is("as KEPT last", 8, x.count(0));
        Due.is("as KEPT last", 2, x.book(0));
        Due.is("as KEPT last", 9, x.wait(0, 120));
    }

    private static void check() {
        RunForIt x = new RunForIt();
        Due.is("none asked", -1, x.check(0));
        Due.is("it has not so many", -2, x.check(1));
        for (int i = 0; i < 10; i++) {
            if (i != 3) {
                x.runner(i, 100 + i, 1, 0);
            }
        }
        x.feed(100, 101, 102, 0, 104);
        Due.is("no such n", -2, x.check(11));
        Due.is("no such n", -2, x.check(-1));
        Due.is("no such n", -2, x.check(Integer.MAX_VALUE));
        Due.is("it has not so many", -2, x.check(6));
        Due.is("the tape stays", 20, x.count(5));
        Due.is("right; not told 0", -1, x.check(5));
        Due.is("empty", 0, x.count(5));
        x.feed(100, 101, 102, 0, 104);
        x.feed(105, 106, 107, 108, 109);
        Due.is("all ten", -1, x.check(10));
        x.feed(100, 101, 103, 103, 0);
        Due.is("the first that is not so", 2, x.check(5));
        Due.is("empty", 0, x.count(5));
        x.feed(100, 101, 103, 103, 0);
        Due.is("no more than are asked", -1, x.check(2));
        x.feed(100 + (1 << 24), 0, 0, 0, 0);
        Due.is("four bytes", 0, x.check(1));
        for (int bit = 0; bit < 32; bit++) {
            x.feed(100 ^ 1 << bit, 0, 0, 0, 0);
            Due.is("bit " + bit, 0, x.check(1));
        }
        x.feed(-1, 0, 0, 0, 0);
        Due.is("four bytes", 0, x.check(3));
        x.feed(100, 101, 102, 1, 104);
        Due.is("RUNNER 3 is not told", 3, x.check(5));
        x.feed(1, 1, 1, 1, 1);
        Due.is("none asked", -1, x.check(0));
        Due.is("empty, too", 0, x.count(5));
        x.feed(100, 101, 102, 0, 104);
        x.feed(105, 106, 107, 108, 109);
        x.feed(0, 0, 0, 0, 0);
        Due.is("eleven are there, none such", -2, x.check(11));
    }
}
