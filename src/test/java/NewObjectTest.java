/** Promise 1: a new object. */
final class NewObjectTest {
    private NewObjectTest() {
    }

    public static void main(String[] args) {
        RunForIt x = new RunForIt();
        Due.is("six STEPS", 6, x.count(0));
        Due.is("no STREET", 0, x.count(1));
        Due.is("no QUEUE", 0, x.count(2));
        Due.is("nobody in it", 0, x.count(3));
        Due.is("no LAW", 0, x.count(4));
        Due.is("an empty tape", 0, x.count(5));
        Due.is("THE SEED", 1, x.count(6));
        for (int k = 0; k < 4; k++) {
            Due.is("no RULE " + k, 0, x.count(10 + k));
        }
        for (int i = 0; i < 8; i++) {
            Due.is("no LINE " + i, -1, x.which(i, 0, 0, 0, 0));
        }
        Due.is("no RUNNERS", -1, x.check(0));
        for (int yards = -1; yards <= 120; yards++) {
            Due.is("nobody to wait for", 0, x.wait(7, yards));
        }
        for (int what = 0; what < 4; what++) {
            Due.is("no TRIES", 0, x.book(what));
        }
        Due.is("no LOG", 0, x.log(1));
        Due.is("nothing KEPT", false, x.undo());
        Due.is("NONE", -1, RunForIt.NONE);
        lastCall();
        Due.end();
    }

    /** 512 calls are promised: what the last of them answers, behind as many changes as there can be. */
    private static void lastCall() {
        RunForIt x = new RunForIt();
        x.feed(0x7639392d, 0x6e28313d, 0x31290000, 0, 0);
        Due.is("v99-n(1=1)", 1, x.law(10));
        for (int call = 3; call <= 511; call++) {
            x.steps(call % 8 + 1);
        }
        Due.is("the 512th call", 91, x.best(8, 0, 0, false, false, 0));
    }
}
