import java.util.Random;

/**
 * THE LAW's language: random TEXTS, whole and spoilt, each read by the class and by the Oracle; what is read is asked of
 * some STATES. Promises 6, 7 and 9. An argument tells how many TEXTS.
 */
final class RandomTextsTest {
    private static final String SIGNS = "ywbsgvmltndezrpqka0123456789+-*/%<>=&|![](),; \0\377";
    private static final int[] NUMBERS = {0, 1, 2, 3, 9, 10, 99, 120, 99999, 65536, 46341};
    private static final int[] MOVES = {1, 2, 3, 5, 6, 7};
    /** What one object has been called behind which another one is taken: 512 calls are promised. */
    private static final int ENOUGH = 400;

    private static final Random CHANCE = new Random(42);
    private static RunForIt made;
    private static Oracle due;
    private static int calls = ENOUGH;

    private RandomTextsTest() {
    }

    public static void main(String[] args) {
        int texts = args.length > 0 ? Integer.parseInt(args[0]) : 20000;
        for (int i = 0; i < texts && Due.wrongs() < 20; i++) {
            if (calls >= ENOUGH) {
                begin();
            }
            oneText();
        }
        Due.end();
    }

    private static void begin() {
        made = new RunForIt();
        due = new Oracle();
        calls = 0;
        feed("30f,20u,9w,40sacop");
        Due.is("street", due.street(14), made.street(14));
        feed("acop");
        Due.is("queue", due.queue(4), made.queue(4));
    }

    private static int pick(int below) {
        return CHANCE.nextInt(below);
    }

    private static void feed(String text) {
        for (int from = 0; from < text.length(); from += 20) {
            int[] five = new int[5];
            for (int i = 0; i < 20; i++) {
                int at = from + i;
                five[i / 4] = five[i / 4] << 8 | (at < text.length() ? text.charAt(at) : 'x');
            }
            Due.is("feed", due.feed(five[0], five[1], five[2], five[3], five[4]),
                made.feed(five[0], five[1], five[2], five[3], five[4]));
            calls++;
        }
    }

    private static void oneText() {
        boolean isRule = pick(4) == 0;
        String text = spoilt(clauses(isRule ? "a" : "ywbsgvml"));
        if (text.length() > 240) {
            return;
        }
        feed(text);
        int n = text.length();
        int answer = isRule ? made.rule(0, n) : made.law(n);
        Due.is((isRule ? "rule " : "law ") + text, isRule ? due.rule(0, n) : due.law(n), answer);
        calls++;
        for (int i = 0; answer > 0 && i < 12; i++) {
            ask(text, pick(6), pick(121), pick(10), coin(), coin());
        }
    }

    private static void ask(String text, int t, int d, int e, boolean z, boolean r) {
        int action = MOVES[pick(MOVES.length)];
        int what = pick(5);
        String told = " " + t + " " + d + " " + e + " " + z + " " + r + " by " + text;
        Due.is("after " + action + " " + what + told, due.after(t, d, e, z, r, action, what),
            made.after(t, d, e, z, r, action, what));
        Due.is("best" + told, due.best(6, d, e, z, r, 0), made.best(6, d, e, z, r, 0));
        Due.is("by" + told, due.by(0, t, d, e, z, r, 4), made.by(0, t, d, e, z, r, 4));
        calls += 3;
    }

    private static String clauses(String letters) {
        StringBuilder text = new StringBuilder();
        boolean many = pick(20) == 0;
        int count = many ? 15 + pick(4) : 1 + pick(3);
        for (int i = 0; i < count; i++) {
            char letter = letters.charAt(pick(letters.length()));
            text.append(i == 0 ? "" : ";").append(letter);
            text.append(many ? "1(t=1)" : sum(pick(7)) + "(" + any(pick(7)) + ")");
        }
        return text.toString();
    }

    /** One sign more, less or another one; or not the whole TEXT. */
    private static String spoilt(String whole) {
        String text = whole;
        if (pick(3) == 0) {
            int at = pick(text.length());
            String by = pick(3) == 0 ? "" : "" + SIGNS.charAt(pick(SIGNS.length()));
            text = text.substring(0, at) + by + text.substring(at + pick(2));
        }
        return pick(10) == 0 || text.isEmpty() ? whole.substring(0, 1 + pick(whole.length())) : text;
    }

    private static boolean coin() {
        return CHANCE.nextBoolean();
    }

    private static String sum(int depth) {
        StringBuilder text = new StringBuilder(factor(depth));
        for (int i = pick(3); i > 0; i--) {
            text.append("+-*/%".charAt(pick(5))).append(factor(depth));
        }
        return text.toString();
    }

    private static String factor(int depth) {
        if (depth > 0 && pick(3) == 0) {
            return "[" + sum(depth - 1) + "]";
        }
        return coin() ? "" + NUMBERS[pick(NUMBERS.length)] : "" + "tndezrpqka".charAt(pick(10));
    }

    private static String any(int depth) {
        StringBuilder text = new StringBuilder(piece(depth));
        for (int i = pick(4) == 0 ? pick(5) : pick(2); i > 0; i--) {
            text.append("&|".charAt(pick(2))).append(piece(depth));
        }
        return text.toString();
    }

    private static String piece(int depth) {
        if (depth > 0 && coin()) {
            return coin() ? "!" + piece(depth - 1) : "(" + any(depth - 1) + ")";
        }
        return sum(pick(7)) + "<>=".charAt(pick(3)) + sum(pick(2));
    }
}
