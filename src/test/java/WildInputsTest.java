/** No call throws or fails to end, whatever it is told, behind its 512th call, too. */
final class WildInputsTest {
    private static final int[] WILD = {Integer.MIN_VALUE, Integer.MIN_VALUE + 1, -1000, -121, -2, -1, 0, 1, 2, 3, 4, 5, 6, 7, 8,
        9, 10, 16, 20, 21, 40, 60, 80, 100, 119, 120, 121, 240, 260, 300, 399, 65535, 65536, 16777215, Integer.MAX_VALUE};
    private static final String[] LAWS = {"y1/0(1=1);w1%0(1=1)", "y99999*99999*99999(1=1)", "s10(1=1);g10(1=1)",
        "y[32768*65536]/[0-1](1=1)", "g10(z=0);y3*k(1=1);wk(1=1);b1(1=1);s5(1=1);v9(1=1);m3(1=1)"};

    private static long state = 5;

    private WildInputsTest() {
    }

    public static void main(String[] args) {
        for (int run = 0; run < 40; run++) {
            RunForIt x = new RunForIt();
            Due.law(x, LAWS[run % LAWS.length]);
            Due.rule(x, 0, "ak+d%4-9/e(1=1)");
            Due.rule(x, 1, "a1(1=1)");
            for (int call = 0; call < 1500; call++) {
                texts(x);
                states(x);
                things(x);
            }
            Due.is("STEPS in bounds", true, x.count(0) >= 1 && x.count(0) <= 8);
        }
        Due.end();
    }

    private static int pick(int below) {
        state = state * 6364136223846793005L + 1442695040888963407L;
        return (int) ((state >>> 33) % below);
    }

    private static int wild() {
        return WILD[pick(WILD.length)];
    }

    private static int tame(int below) {
        return pick(12) == 0 ? wild() : pick(below);
    }

    private static boolean coin() {
        return pick(2) == 0;
    }

    private static void texts(RunForIt x) {
        switch (pick(9)) {
            case 0 -> x.feed(wild(), wild(), wild(), wild(), wild());
            case 1 -> x.street(wild());
            case 2 -> x.queue(wild());
            case 3 -> x.law(wild());
            case 4 -> x.rule(wild(), wild());
            case 5 -> x.steps(tame(9));
            case 6 -> x.count(wild());
            case 7 -> x.check(wild());
            default -> {
                x.queue(0);
                x.feed(0x61636f70, pick(9), 0, 0, 0);
                x.queue(pick(6));
            }
        }
    }

    private static void states(RunForIt x) {
        switch (pick(12)) {
            case 0 -> x.may(tame(9), tame(121), tame(10), coin(), coin(), tame(8));
            case 1 -> x.after(tame(9), tame(121), tame(10), coin(), coin(), tame(8), tame(5));
            case 2 -> x.best(tame(9), tame(121), tame(10), coin(), coin(), tame(2));
            case 3 -> x.by(tame(2), tame(9), tame(121), tame(10), coin(), coin(), tame(5));
            case 4 -> x.point(tame(9), tame(10), coin(), coin(), tame(2));
            case 5 -> x.more(tame(121), tame(10), coin(), coin(), tame(2));
            case 6 -> x.corner(tame(121), tame(10), tame(30), tame(8));
            case 7 -> x.blind(tame(121), tame(10), coin(), coin(), tame(4));
            case 8 -> x.near(tame(2), tame(121), tame(10), coin(), coin(), tame(2));
            case 9 -> x.leaves(tame(9), tame(121), tame(10), coin(), coin(), tame(2));
            case 10 -> x.over(tame(999), tame(99), tame(20), tame(121), tame(10), coin(), coin(), tame(2));
            default -> x.hadSeen(tame(121), tame(10), tame(8), tame(9), tame(2));
        }
    }

    private static void things(RunForIt x) {
        switch (pick(13)) {
            case 0 -> x.line(tame(8), tame(4), wild(), tame(99), tame(99));
            case 1 -> x.which(tame(8), tame(4), tame(24), tame(99), tame(2));
            case 2 -> x.runner(tame(10), tame(121), tame(40), tame(999));
            case 3 -> x.wait(tame(999), wild());
            case 4 -> x.three(tame(99), tame(4), tame(99), tame(2));
            case 5 -> x.drawn(tame(2), tame(121), tame(10), coin(), coin());
            case 6 -> x.log(wild());
            case 7 -> x.wrong(tame(8), tame(3));
            case 8 -> x.tries(coin(), coin());
            case 9 -> x.book(wild());
            case 10 -> x.fits(tame(11), tame(11), tame(11), tame(11));
            case 11 -> x.seed(wild());
            default -> {
                if (coin()) {
                    x.keep();
                } else {
                    x.undo();
                }
            }
        }
    }
}
