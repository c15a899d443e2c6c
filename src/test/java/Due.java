/** Counts answers that are not due; end() is the last call of a test's main. */
final class Due {
    private static int asked = 0;
    private static int wrong = 0;

    private Due() {
    }

    static void is(String what, long due, long answer) {
        asked++;
        if (due != answer) {
            wrong++;
            System.out.println(what + ": " + answer + ", due is " + due);
        }
    }

    static void is(String what, boolean due, boolean answer) {
        is(what, due ? 1 : 0, answer ? 1 : 0);
    }

    /** How many answers so far were not due. */
    static int wrongs() {
        return wrong;
    }

    static void end() {
        System.out.println(asked + " answers, " + wrong + " not as due");
        if (wrong > 0 || asked == 0) {
            System.exit(1);
        }
    }

    /** Puts a TEXT at the begin of an empty tape (what comes behind it is filled up with x). */
    static int feed(RunForIt x, String text) {
        int size = 0;
        for (int from = 0; from < text.length(); from += 20) {
            int[] five = new int[5];
            for (int i = 0; i < 20; i++) {
                int at = from + i;
                five[i / 4] = five[i / 4] << 8 | (at < text.length() ? text.charAt(at) : 'x');
            }
            size = x.feed(five[0], five[1], five[2], five[3], five[4]);
        }
        return size;
    }

    static int street(RunForIt x, String text) {
        feed(x, text);
        return x.street(text.length());
    }

    static int queue(RunForIt x, String text) {
        if (!text.isEmpty()) {
            feed(x, text);
        }
        return x.queue(text.length());
    }

    static int law(RunForIt x, String text) {
        feed(x, text);
        return x.law(text.length());
    }

    static int rule(RunForIt x, int k, String text) {
        feed(x, text);
        return x.rule(k, text.length());
    }
}
