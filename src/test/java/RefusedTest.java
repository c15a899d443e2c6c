/**
 * What is told at the end of "Terms": a refused call changes nothing but the tape, where that is told; NONE is told first,
 * then a FAULT, then -2, then -3, but where a call tells otherwise. And what FAULTS and calls that only ask leave as it is.
 */
final class RefusedTest {
    private static final long NO_VALUE = -2000000000000000000L;
    private static final long NO_PENCE = -1000000000L;

    private interface Call {
        long of(RunForIt x);
    }

    private RefusedTest() {
    }

    public static void main(String[] args) {
        refusedTexts();
        refusedThings();
        refusedStates();
        refusedLog();
        faults();
        asked();
        nothingKept();
        shortTape();
        noneFirst();
        twoBeforeThree();
        Due.end();
    }

    /** All there is of everything, and a tape of 260 bytes that begins with 12w,3s. */
    private static RunForIt full() {
        RunForIt x = new RunForIt();
        x.seed(99);
        x.steps(3);
        x.line(0, 1, 3, 10, 30);
        x.line(3, 1, 2, 20, 10);
        x.runner(0, 10, 5, 30);
        x.runner(4, 50, 10, 20);
        x.tries(true, false);
        x.keep();
        x.seed(4711);
        x.steps(4);
        x.line(1, 1, 2, 5, 50);
        x.runner(9, 100, 9, 90);
        for (int i = 1; i < 60; i++) {
            x.tries(i % 3 == 0, i % 4 == 0);
        }
        Due.street(x, "9f,20u");
        Due.queue(x, "ac");
        Due.law(x, "y4*k+a(1=1);wk-1(1=1);b1(1=1);s2+5*a(1=1);g5(z=0);g1(1=1);v50-t(1=1);m9+r*10(1=1);l12(1=1)");
        Due.rule(x, 0, "a7(t=1);a1(1=1)");
        Due.rule(x, 2, "a3(z=0);a2(1=1);a1(1=1)");
        x.drawn(2, 29, 7, false, false);
        x.feed(0x3132772c, 0x33730000, 0, 0, 0);
        while (x.feed(1, 2, 3, 4, 5) != -1) {
            continue;
        }
        return x;
    }

    /** What can be asked without changing anything, as one number; how many bytes the tape has by itself. */
    private static long seen(RunForIt x) {
        long all = 7;
        for (int what = -1; what < 401; what++) {
            all = all * 31 + (what == 5 ? 0 : x.count(what));
        }
        for (int what = -1; what < 42; what++) {
            all = all * 31 + x.log(what);
        }
        for (int i = 0; i < 10; i++) {
            all = all * 31 + x.wrong(i, 0) + 3 * x.wrong(i, 1) + 5 * x.wrong(i, 2);
            all = all * 31 + x.which(i, 1, 0, 15, 0) + 3 * x.which(i, 1, 1, 25, 0) + 5 * x.which(i, 1, 1, 25, 1);
        }
        for (int yards = -1; yards <= 120; yards++) {
            all = all * 31 + x.wait(3, yards);
        }
        for (int what = 0; what < 4; what++) {
            all = all * 31 + x.book(what);
        }
        for (int guess = 0; guess < 11; guess++) {
            all = all * 31 + x.fits(guess, 10 - guess, 4, 3);
        }
        for (int t = 0; t <= 8; t++) {
            all = all * 31 + x.best(t, 25, 7, false, false, 0) + 3 * x.best(t, 25, 7, false, false, 1);
            for (int k = 0; k < 4; k++) {
                all = all * 31 + x.by(k, t, 25, 7, false, false, 0) + 3 * x.by(k, t, 25, 7, true, true, 4);
            }
        }
        return all;
    }

    /** The answer that refuses, and nothing changed by it: what is seen, the tape, what is KEPT. */
    private static void refused(String name, long refusal, Call call) {
        RunForIt x = full();
        long before = seen(x);
        Due.is(name, refusal, call.of(x));
        Due.is(name + ": what is seen stays", before, seen(x));
        Due.is(name + ": how many bytes stays", 260, x.count(5));
        Due.is(name + ": the tape stays", 15, x.street(6));
        Due.is(name + ": what is KEPT stays", true, x.undo());
        Due.is(name + ": what is KEPT stays", 99, x.count(6));
        Due.is(name + ": what is KEPT stays", 3, x.count(0));
        Due.is(name + ": what is KEPT stays", 1, x.book(0));
        Due.is(name + ": what is KEPT stays", 0, x.book(2));
        Due.is(name + ": what is KEPT stays", 50, x.wait(0, 120));
        Due.is(name + ": what is KEPT stays", 4, x.which(0, 1, 1, 25, 1));
        Due.is(name + ": what is KEPT stays", -1, x.which(1, 1, 1, 25, 1));
    }

    private static long bit(boolean answer) {
        return answer ? 1 : 0;
    }

    private static void refusedTexts() {
        refused("steps 0", 0, x -> bit(x.steps(0)));
        refused("steps 9", 0, x -> bit(x.steps(9)));
        refused("feed beyond 260", -1, x -> x.feed(9, 9, 9, 9, 9));
        refused("street 0", -1, x -> x.street(0));
        refused("street 81", -1, x -> x.street(81));
        refused("queue -1", -1, x -> x.queue(-1));
        refused("queue 17", -1, x -> x.queue(17));
        refused("law 0", -1, x -> x.law(0));
        refused("law 241", -1, x -> x.law(241));
        refused("rule of none", -1, x -> x.rule(4, 6));
        refused("rule of none", -1, x -> x.rule(-1, 6));
        refused("rule 0", -1, x -> x.rule(0, 0));
        refused("rule 241", -1, x -> x.rule(0, 241));
        refused("check -1", -2, x -> x.check(-1));
        refused("check 11", -2, x -> x.check(11));
        refused("count", -1, x -> x.count(7));
    }

    private static void refusedThings() {
        refused("line of none", 0, x -> bit(x.line(8, 1, 1, 1, 1)));
        refused("line, COLOUR", 0, x -> bit(x.line(0, 4, 1, 1, 1)));
        refused("line, HOURS", 0, x -> bit(x.line(0, 1, 16777216, 1, 1)));
        refused("line, FAR", 0, x -> bit(x.line(0, 1, 1, 100, 1)));
        refused("line, OFTEN", 0, x -> bit(x.line(0, 1, 1, 1, 100)));
        refused("which, not told", -1, x -> x.which(2, 1, 1, 25, 0));
        refused("which, hour", -1, x -> x.which(0, 1, 24, 25, 0));
        refused("runner of none", 0, x -> bit(x.runner(10, 1, 1, 1)));
        refused("runner, YARDS", 0, x -> bit(x.runner(0, 0, 1, 1)));
        refused("runner, a STEP", 0, x -> bit(x.runner(0, 1, 41, 1)));
        refused("runner, WORTH", 0, x -> bit(x.runner(0, 1, 1, 1000)));
        refused("wait, costs", NO_PENCE, x -> x.wait(1000, 5));
        refused("wait, YARDS", NO_PENCE, x -> x.wait(5, 121));
        refused("three", -1, x -> x.three(1, 0, 1, 0));
        refused("a 61st TRY", -1, x -> x.tries(true, true));
        refused("a 61st TRY", -1, x -> x.tries(false, false));
        refused("book", -1, x -> x.book(4));
        refused("fits", -1, x -> x.fits(0, 0, 11, 0));
        refused("seed -1", 0, x -> bit(x.seed(-1)));
        refused("seed 65536", 0, x -> bit(x.seed(65536)));
    }

    private static void refusedStates() {
        refused("may", -1, x -> x.may(4, 9, 9, false, false, 1));
        refused("after", -1, x -> x.after(0, 9, 9, false, false, 4, 0));
        refused("after, may not be", -2, x -> x.after(0, 9, 1, false, false, 3, 0));
        refused("best", NO_VALUE, x -> x.best(5, 9, 9, false, false, 0));
        refused("by", NO_VALUE, x -> x.by(1, 0, 9, 9, false, false, 0));
        refused("point", -1, x -> x.point(4, 9, false, false, 0));
        refused("more", NO_VALUE, x -> x.more(9, 10, false, false, 1));
        refused("corner", NO_VALUE, x -> x.corner(9, 9, 9, 0));
        refused("blind", NO_VALUE, x -> x.blind(9, 9, false, false, 4));
        refused("near", -1, x -> x.near(1, 9, 9, false, false, 0));
        refused("near, he does not MISS it", -2, x -> x.near(0, 4, 9, false, false, 0));
        refused("leaves", -1, x -> x.leaves(5, 9, 9, false, false, 0));
        refused("over", -1, x -> x.over(1000, 9, 9, 9, 9, false, false, 0));
        refused("hadSeen", -1, x -> x.hadSeen(9, 9, 1, 5, 0));
        refused("hadSeen, caught", -3, x -> x.hadSeen(4, 9, 1, 1, 0));
    }

    private static void refusedLog() {
        refused("drawn, not told", -1, x -> x.drawn(1, 9, 9, false, false));
        refused("drawn of none", -1, x -> x.drawn(4, 9, 9, false, false));
        refused("drawn, YARDS", -1, x -> x.drawn(0, 121, 9, false, false));
        refused("drawn, BREATH", -1, x -> x.drawn(0, 9, -1, false, false));
        refused("log", -1, x -> x.log(9));
        refused("wrong", -1, x -> x.wrong(4, 0));
        refused("wrong", -1, x -> x.wrong(0, 3));
    }

    /** The one before stays, with all that was reckoned by it and the LOG; the tape is empty. */
    private static void fault(String name, long due, Call call) {
        RunForIt x = full();
        long before = seen(x);
        Due.is(name, due, call.of(x));
        Due.is(name + ": what is seen stays", before, seen(x));
        Due.is(name + ": the tape is empty", 0, x.count(5));
    }

    private static void faults() {
        fault("street", -1004, x -> x.street(4));
        fault("street of 80", -1006, x -> x.street(80));
        fault("queue", -1000, x -> x.queue(6));
        fault("law", -1000, x -> x.law(6));
        for (int k = 0; k < 4; k++) {
            int to = k;
            fault("rule " + k, -1000, x -> x.rule(to, 6));
        }
    }

    /** Calls that only ask leave all as it is, whatever they reckon on the way. */
    private static void asked() {
        Call[] calls = {x -> x.may(0, 9, 9, false, false, 7), x -> x.after(0, 9, 9, false, false, 7, 2),
            x -> x.best(0, 120, 9, false, true, 0), x -> x.by(2, 0, 40, 9, false, false, 2), x -> x.point(0, 9, true, false, 1),
            x -> x.more(25, 7, false, false, 0), x -> x.more(25, 7, false, false, 1), x -> x.corner(40, 9, 8, 0),
            x -> x.corner(40, 9, 8, 6), x -> x.blind(25, 7, false, false, 21), x -> x.near(0, 40, 7, false, false, 1),
            x -> x.leaves(2, 25, 7, false, false, 0), x -> x.over(30, 9, 2, 25, 7, false, false, 1),
            x -> x.hadSeen(40, 7, 1, 3, 1), x -> x.which(1, 1, 1, 25, 1), x -> x.wait(4, -1), x -> x.three(5, 2, 20, 1),
            x -> x.fits(1, 2, 3, 4), x -> x.wrong(1, 2)};
        for (int i = 0; i < calls.length; i++) {
            RunForIt x = full();
            long before = seen(x);
            calls[i].of(x);
            Due.is("asked " + i, before, seen(x));
            Due.is("asked " + i + ": the tape", 15, x.street(6));
        }
    }

    private static void nothingKept() {
        RunForIt x = new RunForIt();
        x.steps(3);
        x.seed(7);
        x.tries(true, true);
        Due.rule(x, 0, "a1(1=1)");
        x.drawn(0, 9, 9, true, false);
        x.feed(1, 2, 3, 4, 5);
        long before = seen(x);
        Due.is("none was KEPT", false, x.undo());
        Due.is("nothing changes", before, seen(x));
        Due.is("the LOG stays", 2, x.log(1));
        Due.is("the tape stays", 20, x.count(5));
    }

    /** What has not so many bytes: the tape stays; what has just so many: it is empty then. */
    private static void shortTape() {
        Call[] calls = {x -> x.street(21), x -> x.law(21), x -> x.rule(0, 21), x -> x.check(6)};
        long[] due = {-1, -1, -1, -2};
        for (int i = 0; i < calls.length; i++) {
            RunForIt x = new RunForIt();
            x.feed(0x35660000, 0, 0, 0, 0);
            Due.is("not so many " + i, due[i], calls[i].of(x));
            Due.is("the tape stays", 20, x.count(5));
            Due.is("the tape stays", 5, x.street(2));
            Due.is("empty: not so many " + i, due[i], calls[i].of(x));
        }
        Call[] just = {x -> x.street(20), x -> x.law(20), x -> x.rule(0, 20), x -> x.check(5)};
        long[] answers = {-1002, -1000, -1000, 0};
        for (int i = 0; i < just.length; i++) {
            RunForIt x = new RunForIt();
            x.feed(0x35660000, 0, 0, 0, 0);
            Due.is("just so many " + i, answers[i], just[i].of(x));
            Due.is("empty then", 0, x.count(5));
        }
        RunForIt x = new RunForIt();
        for (int n = 1; n <= 16; n++) {
            Due.is("an empty tape has not " + n, -1, x.queue(n));
        }
        Due.is("an empty tape has 0 bytes", 0, x.queue(0));
        Due.is("an empty tape has 0 numbers", -1, x.check(0));
    }

    /** NONE ahead of a FAULT, of -2, of -3. */
    private static void noneFirst() {
        RunForIt x = full();
        Due.is("no such n ahead of a FAULT", -1, x.queue(17));
        Due.is("no such RULE ahead of a FAULT", -1, x.rule(4, 1));
        Due.is("no such number of bytes ahead of a FAULT", -1, x.rule(0, 241));
        x = new RunForIt();
        Due.law(x, "w9(1=1);y120(1=1);g10(1=1)");
        Due.is("after: no such what ahead of -2", -1, x.after(0, 9, 8, false, false, 1, 5));
        Due.is("after: no such STEP ahead of -2", -1, x.after(6, 9, 8, false, false, 1, 0));
        Due.is("after: it may not be", -2, x.after(0, 9, 8, false, false, 1, 0));
        Due.is("point: no such what ahead of -2", -1, x.point(0, 0, false, false, 2));
        Due.is("point: from none", -2, x.point(0, 0, false, false, 1));
        Due.is("hadSeen: no such what ahead of -3", -1, x.hadSeen(9, 8, 1, 1, 2));
        Due.is("hadSeen: no such j ahead of -3", -1, x.hadSeen(9, 8, 1, 7, 0));
        Due.is("hadSeen: no such ACTION ahead of -3", -1, x.hadSeen(0, 8, 4, 1, 0));
        Due.is("near: not told, ahead of -2", -1, x.near(0, 0, 9, false, false, 0));
        Due.rule(x, 0, "a0(1=1)");
        Due.is("near: no such what ahead of -2", -1, x.near(0, 0, 9, false, false, 2));
        Due.is("near: no such STATE ahead of -2", -1, x.near(0, 121, 9, false, false, 0));
        Due.is("near: he does not MISS it", -2, x.near(0, 0, 9, false, false, 0));
        x.line(0, 1, 1, 50, 9);
        Due.is("which: not told, ahead of -2", -1, x.which(1, 1, 0, 20, 0));
        Due.is("which: no such hour ahead of -2", -1, x.which(0, 1, 24, 20, 0));
        Due.is("which: none can be it", -2, x.which(0, 1, 0, 20, 0));
        x.feed(9, 9, 9, 9, 9);
        Due.is("check: it has not so many ahead of the first that is not so", -2, x.check(6));
        Due.is("check: the first that is not so", 0, x.check(5));
    }

    /** HAD HE SEEN ME tells otherwise: -3 ahead of -2, gone or not. */
    private static void twoBeforeThree() {
        RunForIt x = new RunForIt();
        x.steps(3);
        Due.law(x, "y5(1=1);w2(1=1);g10(1=1)");
        Due.is("surely gone", -2, x.hadSeen(11, 9, 1, 1, 0));
        Due.is("surely gone", -2, x.hadSeen(11, 9, 1, 2, 0));
        Due.is("surely gone, and caught it in STEP 2", -3, x.hadSeen(11, 9, 1, 3, 0));
        Due.is("surely gone, and no BREATH in STEP 1", -3, x.hadSeen(11, 3, 1, 2, 0));
        Due.is("just enough BREATH", -2, x.hadSeen(11, 4, 1, 2, 0));
        Due.is("caught in the STEP in which it would go", -3, x.hadSeen(5, 9, 1, 1, 0));
    }
}
