/** Whether to run for a bus: see ../shared/DOC.md, whose words are used here in capitals. */
public final class RunForIt {
    public static final int NONE = -1;

    /** Less than any VALUE: 99 times 100 for each of 8 STEPS is not half of it. */
    private static final long NO_VALUE = -2000000000000000000L;
    private static final int NO_PENCE = -1000000000;
    private static final int MAY_NOT_BE = -2;
    private static final int MOST_STEPS = 8;
    private static final int MOST_YARDS = 120;
    private static final int MOST_BREATH = 9;
    private static final int MOST_CLAUSES = 16;
    private static final int MOST_BLIND = 4;
    private static final int MOST_TRIES = 60;
    private static final int RULES = 4;
    private static final int LINES = 8;
    private static final int RUNNERS = 10;
    private static final int NEVER_AN_ACTION = 4;
    private static final int LAST_ACTION = 7;

    /** A STATE but for its STEP is one number, so that rows of them are rows of numbers. */
    private static final int PLACES = (MOST_YARDS + 1) * 40;
    private static final int RAN = 1;
    private static final int SEEN = 2;
    private static final int BREATH = 4;
    private static final int YARD = 40;

    private static final String LAW_LETTERS = "ywbsgvml";
    private static final String RULE_LETTERS = "a";
    private static final String TOLD_LETTERS = "tndezrpqka";
    private static final int[] BOUNDS = {99, 9, 9, 10, 10, 99, 99, 99};

    private static final long[] HUNDREDS = {1L, 100L, 10000L, 1000000L, 100000000L, 10000000000L,
        1000000000000L, 100000000000000L, 10000000000000000L};
    private static final long[] TENS = {1L, 10L, 100L, 1000L, 10000L, 100000L, 1000000L, 10000000L, 100000000L};

    private final int[] tape = new int[260];
    private int tapeSize = 0;
    private final Store now = new Store();
    private final Store kept = new Store();
    private boolean hasKept = false;
    private final Street way = new Street();
    private final Queue people = new Queue();
    private final Ride ride = new Ride(way, people, now);
    private final Text[] rules = new Text[RULES];
    private Text spare = new Text();
    private final Parser parser = new Parser();
    private final Best bests = new Best(ride);
    private final Course course = new Course(ride);
    private final Log story = new Log(ride, now);
    private final Odds odds = new Odds(ride);
    private final Product firstGuess = new Product();
    private final Product secondGuess = new Product();

    public RunForIt() {
        for (int k = 0; k < rules.length; k++) {
            rules[k] = new Text();
        }
    }

    public boolean steps(int n) {
        if (!within(n, 1, MOST_STEPS)) {
            return false;
        }
        now.stepCount = n;
        forget();
        return true;
    }

    public int feed(int a, int b, int c, int d, int e) {
        if (tapeSize + 20 > tape.length) {
            return NONE;
        }
        append(a);
        append(b);
        append(c);
        append(d);
        append(e);
        return tapeSize;
    }

    public int street(int n) {
        if (!within(n, 1, 80) || n > tapeSize) {
            return NONE;
        }
        int answer = way.read(tape, n);
        tapeSize = 0;
        if (answer >= 0) {
            forget();
        }
        return answer;
    }

    public int queue(int n) {
        if (!within(n, 0, 16) || n > tapeSize) {
            return NONE;
        }
        int answer = people.read(tape, n);
        tapeSize = 0;
        if (answer >= 0) {
            forget();
        }
        return answer;
    }

    public int law(int n) {
        if (!within(n, 1, 240) || n > tapeSize) {
            return NONE;
        }
        int fault = parser.parse(tape, n, LAW_LETTERS, spare);
        tapeSize = 0;
        if (fault != 0) {
            return fault;
        }
        Text fresh = spare;
        spare = ride.law;
        ride.law = fresh;
        forget();
        return fresh.clauses;
    }

    public int rule(int k, int n) {
        if (k < 0 || k >= rules.length || !within(n, 1, 240) || n > tapeSize) {
            return NONE;
        }
        int fault = parser.parse(tape, n, RULE_LETTERS, spare);
        tapeSize = 0;
        if (fault != 0) {
            return fault;
        }
        Text fresh = spare;
        spare = rules[k] == null ? new Text() : rules[k];
        rules[k] = fresh;
        return fresh.clauses;
    }

    public int may(int t, int yards, int breath, boolean seen, boolean ran, int action) {
        if (!within(t, 0, now.stepCount - 1) || !isState(yards, breath) || !(action == 0 || isMove(action))) {
            return NONE;
        }
        if (action == 0) {
            return 1;
        }
        return ride.behind(t, placeOf(yards, breath, seen, ran), action) < 0 ? 0 : 1;
    }

    public int after(int t, int yards, int breath, boolean seen, boolean ran, int action, int what) {
        if (!within(t, 0, now.stepCount - 1) || !isState(yards, breath) || !isMove(action) || !within(what, 0, 4)) {
            return NONE;
        }
        int place = placeOf(yards, breath, seen, ran);
        int next = ride.behind(t, place, action);
        if (next < 0) {
            return MAY_NOT_BE;
        }
        if (what == 0) {
            return yardsAt(next);
        }
        if (what == 1) {
            return breathAt(next);
        }
        if (what == 2) {
            return ride.tenthsSeen(t, place, action);
        }
        if (yardsAt(next) == 0) {
            return NONE;
        }
        return ride.tenthsGone(t, what == 3 ? next & ~SEEN : next | SEEN);
    }

    public long best(int t, int yards, int breath, boolean seen, boolean ran, int what) {
        if (!within(t, 0, now.stepCount) || !isState(yards, breath) || !within(what, 0, 1)) {
            return NO_VALUE;
        }
        int place = placeOf(yards, breath, seen, ran);
        return what == 0 ? bests.value(t, place) : bests.action(t, place);
    }

    public long by(int k, int t, int yards, int breath, boolean seen, boolean ran, int what) {
        Text told = toldRule(k);
        if (told == null || !within(t, 0, now.stepCount) || !isState(yards, breath) || !within(what, 0, 4)) {
            return NO_VALUE;
        }
        int place = placeOf(yards, breath, seen, ran);
        if (what == 4) {
            return yards == 0 || t >= now.stepCount ? NONE : ride.ruled(told, t, place);
        }
        course.follow(told, t, place);
        return course.sum(now.stepCount, what);
    }

    public int point(int t, int breath, boolean seen, boolean ran, int what) {
        if (!within(t, 0, now.stepCount - 1) || !isState(0, breath) || !within(what, 0, 1)) {
            return NONE;
        }
        for (int yards = MOST_YARDS; yards > 0; yards--) {
            int action = bests.action(t, placeOf(yards, breath, seen, ran));
            if (what == 0 ? action != 0 : (action & 3) == 3) {
                return yards;
            }
        }
        return -2;
    }

    public long more(int yards, int breath, boolean seen, boolean ran, int what) {
        if (!isState(yards, breath) || !within(what, 0, 1)) {
            return NO_VALUE;
        }
        int place = placeOf(yards, breath, seen, ran);
        return what == 0 ? bests.waveWorth(place) : bests.boardingWorth(place);
    }

    public long corner(int yards, int breath, int corner, int what) {
        if (!isState(yards, breath) || !within(corner, 0, MOST_YARDS - 1) || yards <= corner
            || !(what == 0 || isMove(what))) {
            return NO_VALUE;
        }
        int place = placeOf(yards, breath, false, false);
        if (what != 0) {
            return bests.unseeing(0, place, false, what, corner);
        }
        int chosen = 1;
        long most = bests.unseeing(0, place, false, 1, corner);
        for (int action = 2; action <= LAST_ACTION; action++) {
            long value = isMove(action) ? bests.unseeing(0, place, false, action, corner) : most;
            if (value > most) {
                most = value;
                chosen = action;
            }
        }
        return chosen;
    }

    public long blind(int yards, int breath, boolean seen, boolean ran, int what) {
        int n = now.stepCount;
        if (n > MOST_BLIND || !isState(yards, breath) || !(within(what, 20, 21) || within(what, 0, n - 1))) {
            return NO_VALUE;
        }
        int place = placeOf(yards, breath, seen, ran);
        if (course.turnTo(place)) {
            course.search(0);
        }
        if (what == 20) {
            return course.rowValue;
        }
        return what == 21 ? bests.value(0, place) - course.rowValue : item(course.bestRow, what);
    }

    public long near(int k, int yards, int breath, boolean seen, boolean ran, int what) {
        Text told = toldRule(k);
        if (told == null || !isState(yards, breath) || !within(what, 0, 1)) {
            return NONE;
        }
        course.follow(told, 0, placeOf(yards, breath, seen, ran));
        long missed = course.sum(now.stepCount, Course.MISSED);
        if (missed == 0) {
            return -2;
        }
        odds.set(course.sum(now.stepCount, Course.YARDS), missed);
        return odds.part(what);
    }

    public long leaves(int j, int yards, int breath, boolean seen, boolean ran, int what) {
        if (!within(j, 0, now.stepCount) || !isState(yards, breath) || !within(what, 0, 1)) {
            return NONE;
        }
        odds.findLeaving(j, placeOf(yards, breath, seen, ran));
        return odds.part(what);
    }

    public long over(int far, int each, int ride, int yards, int breath, boolean seen, boolean ran, int what) {
        if (!within(far, 1, 999) || !within(each, 1, 99) || !within(ride, 0, 20) || !isState(yards, breath)
            || !within(what, 0, 1)) {
            return NONE;
        }
        odds.findOver(roundedUp(far, each) - ride, placeOf(yards, breath, seen, ran));
        return odds.part(what);
    }

    public long hadSeen(int yards, int breath, int action, int j, int what) {
        if (!isState(yards, breath) || !isMove(action) || !within(j, 1, now.stepCount) || !within(what, 0, 1)) {
            return NONE;
        }
        int refusal = odds.findSeen(placeOf(yards, breath, false, false), action, j);
        return refusal != 0 ? refusal : odds.part(what);
    }

    public boolean line(int i, int colour, int hours, int far, int often) {
        if (!within(i, 0, LINES - 1) || !within(colour, 0, 3) || !within(hours, 0, 16777215)
            || !within(far, 0, 99) || !within(often, 0, 99)) {
            return false;
        }
        now.setLine(i, colour, hours, far, often);
        return true;
    }

    public int which(int i, int colour, int hour, int far, int what) {
        if (!now.hasLine(i) || !within(colour, 0, 3) || !within(hour, 0, 23) || !within(far, 0, 99)
            || !within(what, 0, 1)) {
            return NONE;
        }
        int all = 0;
        for (int line = 0; line < LINES; line++) {
            all += now.oftenOf(line, colour, hour, far);
        }
        if (all == 0) {
            return -2;
        }
        odds.set(now.oftenOf(i, colour, hour, far), all);
        return (int) odds.part(what);
    }

    public boolean runner(int i, int yards, int each, int worth) {
        if (!within(i, 0, RUNNERS - 1) || !within(yards, 1, MOST_YARDS) || !within(each, 1, 40)
            || !within(worth, 0, 999)) {
            return false;
        }
        now.setRunner(i, yards, each, worth);
        return true;
    }

    public int wait(int costs, int what) {
        if (!within(costs, 0, 999) || !within(what, NONE, MOST_YARDS)) {
            return NO_PENCE;
        }
        if (what != NONE) {
            return now.waitWorth(costs, what);
        }
        int chosen = 0;
        int most = now.waitWorth(costs, 0);
        for (int yards = 1; yards <= MOST_YARDS; yards++) {
            int worth = now.waitWorth(costs, yards);
            if (worth > most) {
                most = worth;
                chosen = yards;
            }
        }
        return chosen;
    }

    public int three(int pence, int takes, int worth, int what) {
        if (!within(pence, 0, 99) || !within(takes, 1, 3) || !within(worth, 0, 99) || !within(what, 0, 1)) {
            return NONE;
        }
        int rows = 0;
        int firstRow = -2;
        for (int row = 0; row < 8; row++) {
            if (noneGains(row, pence, takes, worth)) {
                rows++;
                firstRow = firstRow < 0 ? row : firstRow;
            }
        }
        return what == 0 ? rows : firstRow;
    }

    public int drawn(int k, int yards, int breath, boolean seen, boolean ran) {
        Text told = toldRule(k);
        if (told == null || !isState(yards, breath)) {
            return NONE;
        }
        story.play(told, placeOf(yards, breath, seen, ran));
        return story.ended;
    }

    public int log(int what) {
        return story.told(what);
    }

    public long wrong(int i, int what) {
        if (story.length == 0 || !within(what, 0, 2) || (what == 0 && !within(i, 0, story.length - 1))) {
            return NONE;
        }
        if (what == 0) {
            return loss(i);
        }
        int worst = 0;
        for (int step = 1; step < story.length; step++) {
            if (loss(step) > loss(worst)) {
                worst = step;
            }
        }
        return what == 1 ? worst : loss(worst);
    }

    public int tries(boolean seen, boolean waited) {
        if (now.tryCount() >= MOST_TRIES) {
            return NONE;
        }
        now.addTry(seen, waited);
        return now.tryCount();
    }

    public int book(int what) {
        return within(what, 0, 3) ? item(now.book, what) : NONE;
    }

    public int fits(int seen, int not, int otherSeen, int otherNot) {
        if (!within(seen, 0, 10) || !within(not, 0, 10) || !within(otherSeen, 0, 10) || !within(otherNot, 0, 10)) {
            return NONE;
        }
        firstGuess.guess(now.book, seen, not);
        secondGuess.guess(now.book, otherSeen, otherNot);
        int order = firstGuess.comparedWith(secondGuess);
        return order > 0 ? 1 : order < 0 ? 2 : 0;
    }

    public boolean seed(int x) {
        if (!within(x, 0, 65535)) {
            return false;
        }
        now.x = x;
        return true;
    }

    public int keep() {
        kept.copyFrom(now);
        hasKept = true;
        return now.tryCount();
    }

    public boolean undo() {
        if (!hasKept) {
            return false;
        }
        now.copyFrom(kept);
        forget();
        return true;
    }

    public int check(int n) {
        if (!within(n, 0, RUNNERS) || 4 * n > tapeSize) {
            return -2;
        }
        tapeSize = 0;
        for (int i = 0; i < n; i++) {
            if (numberOnTape(i) != now.runnerYards(i)) {
                return i;
            }
        }
        return NONE;
    }

    public int count(int what) {
        if (within(what, 10, 10 + RULES - 1)) {
            Text told = toldRule(what - 10);
            return told == null ? 0 : told.clauses;
        }
        if (within(what, 100, 100 + MOST_YARDS)) {
            return item(way.kinds, what - 100);
        }
        if (within(what, 300, 399)) {
            return item(people.waiting, what - 300);
        }
        switch (what) {
            case 0:
                return now.stepCount;
            case 1:
                return way.yards;
            case 2:
                return people.boarding;
            case 3:
                return people.size;
            case 4:
                return ride.law.clauses;
            case 5:
                return tapeSize;
            case 6:
                return now.x;
            default:
                return NONE;
        }
    }

    private void append(int number) {
        for (int shift = 24; shift >= 0; shift -= 8) {
            put(tape, tapeSize, number >> shift & 255);
            tapeSize++;
        }
    }

    private int numberOnTape(int i) {
        int number = 0;
        for (int j = 0; j < 4; j++) {
            number = number << 8 | item(tape, 4 * i + j);
        }
        return number;
    }

    /** What was reckoned by a STREET, QUEUE, LAW or number of STEPS does not hold by another one. */
    private void forget() {
        ride.age++;
        story.fall();
    }

    private Text toldRule(int k) {
        Text text = k >= 0 && k < rules.length ? rules[k] : null;
        return text == null || text.clauses == 0 ? null : text;
    }

    private long loss(int step) {
        int place = story.placeAt(step);
        long lost = bests.value(step, place) - bests.worth(step, place, story.actionAt(step));
        return lost * hundreds(step);
    }

    private static boolean noneGains(int row, int pence, int takes, int worth) {
        for (int person = 0; person < 3; person++) {
            int other = row ^ 1 << person;
            if (gain(other, person, pence, takes, worth) > gain(row, person, pence, takes, worth)) {
                return false;
            }
        }
        return true;
    }

    private static int gain(int row, int person, int pence, int takes, int worth) {
        boolean waits = Integer.bitCount(row) >= takes;
        if ((row >> person & 1) == 1) {
            return (waits ? worth : 0) - pence;
        }
        return waits ? worth / 2 : 0;
    }

    private static boolean within(int x, int least, int most) {
        return x >= least && x <= most;
    }

    private static boolean isState(int yards, int breath) {
        return within(yards, 0, MOST_YARDS) && within(breath, 0, MOST_BREATH);
    }

    /** Whether it is an ACTION but for the one that lets it go. */
    private static boolean isMove(int action) {
        return within(action, 1, LAST_ACTION) && action != NEVER_AN_ACTION;
    }

    private static int placeOf(int yards, int breath, boolean seen, boolean ran) {
        return yards * YARD + breath * BREATH + (seen ? SEEN : 0) + (ran ? RAN : 0);
    }

    private static int yardsAt(int place) {
        return place / YARD;
    }

    private static int breathAt(int place) {
        return place / BREATH % 10;
    }

    private static boolean isSeenAt(int place) {
        return (place & SEEN) != 0;
    }

    private static int roundedUp(int way, int each) {
        return each < 1 ? 0 : (way + each - 1) / each;
    }

    private static long hundreds(int times) {
        return times >= 0 && times < HUNDREDS.length ? HUNDREDS[times] : 0;
    }

    private static long tens(int times) {
        return times >= 0 && times < TENS.length ? TENS[times] : 0;
    }

    private static int faultOf(int number, int at) {
        return -1000 * number - at;
    }

    private static int item(int[] row, int i) {
        return i >= 0 && i < row.length ? row[i] : 0;
    }

    private static void put(int[] row, int i, int x) {
        if (i >= 0 && i < row.length) {
            row[i] = x;
        }
    }

    private static long longItem(long[] row, int i) {
        return i >= 0 && i < row.length ? row[i] : 0;
    }

    private static void putLong(long[] row, int i, long x) {
        if (i >= 0 && i < row.length) {
            row[i] = x;
        }
    }

    /** What can be KEPT and UNDONE. */
    private static final class Store {
        private static final int LINE = 5;

        private int stepCount = 6;
        private int x = 1;
        /** YARDS of all RUNNERS (0: not told), then their YARDS a STEP, then their WORTHS. */
        private final int[] runners = new int[3 * RUNNERS];
        /** Of each LINE whether it is told, COLOUR, HOURS, FAR, OFTEN. */
        private final int[] lines = new int[LINE * LINES];
        /** TRIES in which he was SEEN, those of them in which it waited; likewise not SEEN. */
        private final int[] book = new int[4];

        void copyFrom(Store other) {
            stepCount = other.stepCount;
            x = other.x;
            System.arraycopy(other.runners, 0, runners, 0, runners.length);
            System.arraycopy(other.lines, 0, lines, 0, lines.length);
            System.arraycopy(other.book, 0, book, 0, book.length);
        }

        /** The next number that is drawn, modulo 10. */
        int draw() {
            x = (25173 * x + 13849) & 65535;
            return x % 10;
        }

        void setLine(int i, int colour, int hours, int far, int often) {
            put(lines, i * LINE, 1);
            put(lines, i * LINE + 1, colour);
            put(lines, i * LINE + 2, hours);
            put(lines, i * LINE + 3, far);
            put(lines, i * LINE + 4, often);
        }

        boolean hasLine(int i) {
            return within(i, 0, LINES - 1) && item(lines, i * LINE) == 1;
        }

        /** OFTEN of a LINE that it can be, 0 of one that it can't. */
        int oftenOf(int i, int colour, int hour, int far) {
            boolean can = hasLine(i) && item(lines, i * LINE + 1) == colour
                && (item(lines, i * LINE + 2) >> hour & 1) == 1 && far >= item(lines, i * LINE + 3);
            return can ? item(lines, i * LINE + 4) : 0;
        }

        void setRunner(int i, int yards, int each, int worth) {
            put(runners, i, yards);
            put(runners, RUNNERS + i, each);
            put(runners, 2 * RUNNERS + i, worth);
        }

        int runnerYards(int i) {
            return within(i, 0, RUNNERS - 1) ? item(runners, i) : 0;
        }

        /** What comes out if the driver waits for who has no more than so many YARDS left. */
        int waitWorth(int costs, int most) {
            int total = 0;
            for (int i = 0; i < RUNNERS; i++) {
                int yards = runnerYards(i);
                if (yards > 0 && yards <= most) {
                    int waited = roundedUp(yards, item(runners, RUNNERS + i));
                    total += item(runners, 2 * RUNNERS + i) - costs * waited;
                }
            }
            return total;
        }

        int tryCount() {
            return book[0] + book[2];
        }

        void addTry(boolean seen, boolean waited) {
            int of = seen ? 0 : 2;
            book[of]++;
            if (waited) {
                book[of + 1]++;
            }
        }
    }

    /** THE STREET. */
    private static final class Street {
        private static final int MOST_PIECES = 12;

        private int yards = 0;
        /** The KIND of the yard that he is about to go, by YARDS left. */
        private final int[] kinds = new int[MOST_YARDS + 1];
        /** KINDS in the order of the TEXT; it takes the place of the one before only if there is no FAULT. */
        private final int[] fresh = new int[MOST_YARDS];

        /** How many YARDS the first n bytes are, or their FAULT. */
        int read(int[] bytes, int n) {
            int total = 0;
            int at = 0;
            for (int pieces = 0; pieces <= MOST_PIECES; pieces++) {
                int begin = at;
                if (!isDigit(bytes, at, n)) {
                    return faultOf(1, at);
                }
                if (pieces == MOST_PIECES) {
                    return faultOf(4, at);
                }
                int number = item(bytes, at) - '0';
                at++;
                if (isDigit(bytes, at, n)) {
                    number = number * 10 + item(bytes, at) - '0';
                    at++;
                }
                if (number == 0) {
                    return faultOf(3, begin);
                }
                int kind = at < n ? "fuws".indexOf((char) item(bytes, at)) : -1;
                if (kind < 0) {
                    return faultOf(1, at);
                }
                if (total + number > MOST_YARDS) {
                    return faultOf(6, begin);
                }
                lay(total, number, kind);
                total += number;
                at++;
                if (at == n) {
                    return accept(total);
                }
                if (item(bytes, at) != ',') {
                    return faultOf(1, at);
                }
                at++;
            }
            return faultOf(4, at);
        }

        private static boolean isDigit(int[] bytes, int at, int n) {
            return at < n && within(item(bytes, at), '0', '9');
        }

        private void lay(int from, int number, int kind) {
            for (int i = 0; i < number; i++) {
                put(fresh, from + i, kind);
            }
        }

        private int accept(int total) {
            yards = total;
            for (int left = 0; left <= MOST_YARDS; left++) {
                int gone = total - Math.max(left, 1);
                put(kinds, left, gone < 0 ? 0 : item(fresh, gone));
            }
            return total;
        }
    }

    /** THE QUEUE. */
    private static final class Queue {
        private int size = 0;
        private int boarding = 0;
        /** People who are not on yet, by the STEP. */
        private final int[] waiting = new int[100];

        /** B by the first n bytes, or their FAULT. */
        int read(int[] bytes, int n) {
            int total = 0;
            for (int i = 0; i < n; i++) {
                int takes = stepsOf(item(bytes, i));
                if (takes == 0) {
                    return faultOf(1, i);
                }
                total += takes;
            }
            size = n;
            boarding = total;
            fillWaiting(bytes, n);
            return total;
        }

        private void fillWaiting(int[] bytes, int n) {
            for (int t = 0; t < waiting.length; t++) {
                waiting[t] = 0;
            }
            int on = 0;
            for (int i = 0; i < n; i++) {
                on += stepsOf(item(bytes, i));
                for (int t = 0; t < on && t < waiting.length; t++) {
                    waiting[t]++;
                }
            }
        }

        private static int stepsOf(int person) {
            switch (person) {
                case 'a':
                    return 1;
                case 'c':
                    return 2;
                case 'o':
                    return 3;
                case 'p':
                    return 4;
                default:
                    return 0;
            }
        }
    }

    /** CLAUSES as orders to a small stack machine: a TEXT is read once and reckoned often. */
    private static final class Text {
        private static final int END = 0;
        private static final int NUMBER = '#';
        private static final int LETTER = 'x';
        /** No more orders than a TEXT has bytes, an order and what goes with it. */
        private static final int ROOM = 480;

        private int clauses = 0;
        private int size = 0;
        private int present = 0;
        private final int[] orders = new int[ROOM];
        private final int[] letters = new int[MOST_CLAUSES];
        private final int[] heads = new int[MOST_CLAUSES];
        private final int[] conditions = new int[MOST_CLAUSES];
        private final int[] stack = new int[32];

        void clear() {
            clauses = 0;
            size = 0;
            present = 0;
        }

        boolean has(int letter) {
            return (present >> (letter - 'a') & 1) == 1;
        }

        void open(int letter) {
            put(letters, clauses, letter);
            put(heads, clauses, size);
            present |= 1 << (letter - 'a');
        }

        void turnToCondition() {
            add(END, 0);
            put(conditions, clauses, size);
        }

        void close() {
            add(END, 0);
            clauses++;
        }

        void add(int order, int with) {
            if (size >= 0 && size + 1 < orders.length) {
                orders[size] = order;
                orders[size + 1] = with;
                size += 2;
            }
        }

        /** Sends a chain of leaps, each of which tells the one before it, to the end of the orders. */
        void leapHere(int last) {
            int leap = last;
            for (int left = ROOM; left > 0 && leap >= 0 && leap + 1 < orders.length; left--) {
                int before = orders[leap + 1];
                orders[leap + 1] = size;
                leap = before;
            }
        }

        /** What the orders from a place on come to; 0 (that is: not so) if something is REFUSED. */
        int run(int from, int[] told) {
            int top = -1;
            int at = from;
            for (int left = ROOM; left > 0 && at >= 0 && at + 1 < orders.length; left--) {
                int order = orders[at];
                int with = orders[at + 1];
                at += 2;
                if (order == END) {
                    break;
                }
                if (order == NUMBER || order == LETTER) {
                    top++;
                    put(stack, top, order == NUMBER ? with : item(told, with));
                } else if (order == '!') {
                    put(stack, top, 1 - item(stack, top));
                } else if (order == '&' || order == '|') {
                    if ((item(stack, top) != 0) == (order == '|')) {
                        at = with;
                    } else {
                        top--;
                    }
                } else {
                    int right = item(stack, top);
                    if (right == 0 && (order == '/' || order == '%')) {
                        return 0;
                    }
                    top--;
                    put(stack, top, reckoned(order, item(stack, top), right));
                }
            }
            return item(stack, top);
        }

        private static int reckoned(int order, int left, int right) {
            switch (order) {
                case '+':
                    return left + right;
                case '-':
                    return left - right;
                case '*':
                    return left * right;
                case '/':
                    return right == 0 ? 0 : left / right;
                case '%':
                    return right == 0 ? 0 : left % right;
                case '<':
                    return left < right ? 1 : 0;
                case '>':
                    return left > right ? 1 : 0;
                default:
                    return left == right ? 1 : 0;
            }
        }
    }

    /** Reads THE LAW's and RULES' language. */
    private static final class Parser {
        private static final int MOST_OPEN = 6;

        private int[] bytes = new int[0];
        private int length = 0;
        private int at = 0;
        private int fault = 0;
        private String letters = "";
        private Text text = new Text();

        /** Reads the first n bytes: 0, or the FAULT. */
        int parse(int[] from, int n, String clauseLetters, Text into) {
            bytes = from;
            length = n;
            at = 0;
            fault = 0;
            letters = clauseLetters;
            text = into;
            text.clear();
            for (int i = 0; i <= length; i++) {
                clause();
                if (fault != 0 || at >= length) {
                    return fault;
                }
                take(';');
            }
            return fault;
        }

        private void clause() {
            int letter = next();
            if (fault != 0 || letter < 0 || letters.indexOf((char) letter) < 0) {
                fail(1);
                return;
            }
            if (text.clauses >= MOST_CLAUSES) {
                fail(4);
                return;
            }
            at++;
            text.open(letter);
            expression(0);
            take('(');
            text.turnToCondition();
            condition(1);
            take(')');
            text.close();
        }

        /** PARTS of PIECES; leaps go past what does not matter any more. */
        private void condition(int depth) {
            int parts = -1;
            int pieces = -1;
            for (int i = 0; i <= length && fault == 0; i++) {
                piece(depth);
                int sign = next();
                if (sign == '&') {
                    pieces = leap(sign, pieces);
                    continue;
                }
                text.leapHere(pieces);
                pieces = -1;
                if (sign != '|') {
                    break;
                }
                parts = leap(sign, parts);
            }
            text.leapHere(parts);
        }

        private int leap(int sign, int before) {
            int here = text.size;
            text.add(sign, before);
            at++;
            return here;
        }

        private void piece(int depth) {
            int sign = next();
            if ((sign == '!' || sign == '(') && depth >= MOST_OPEN) {
                fail(5);
                return;
            }
            if (sign == '!') {
                at++;
                piece(depth + 1);
                text.add(sign, 0);
                return;
            }
            if (sign == '(') {
                at++;
                condition(depth + 1);
                take(')');
                return;
            }
            expression(depth);
            sign = next();
            if (sign != '<' && sign != '>' && sign != '=') {
                fail(1);
                return;
            }
            at++;
            expression(depth);
            text.add(sign, 0);
        }

        private void expression(int depth) {
            int before = 0;
            for (int i = 0; i <= length && fault == 0; i++) {
                factor(depth);
                for (int j = 0; j <= length && fault == 0 && isTimes(next()); j++) {
                    int sign = next();
                    at++;
                    factor(depth);
                    text.add(sign, 0);
                }
                if (before != 0) {
                    text.add(before, 0);
                }
                before = next();
                if (before != '+' && before != '-') {
                    return;
                }
                at++;
            }
        }

        private void factor(int depth) {
            int sign = next();
            int letter = sign < 0 ? -1 : TOLD_LETTERS.indexOf((char) sign);
            if (letter >= 0) {
                at++;
                text.add(Text.LETTER, letter);
                return;
            }
            if (sign != '[') {
                number();
                return;
            }
            if (depth >= MOST_OPEN) {
                fail(5);
                return;
            }
            at++;
            expression(depth + 1);
            take(']');
        }

        private void number() {
            if (!isDigit(next())) {
                fail(1);
                return;
            }
            int number = 0;
            for (int digits = 0; digits < 5 && isDigit(next()); digits++) {
                number = number * 10 + next() - '0';
                at++;
            }
            if (isDigit(next())) {
                fail(2);
                return;
            }
            text.add(Text.NUMBER, number);
        }

        private static boolean isTimes(int sign) {
            return sign == '*' || sign == '/' || sign == '%';
        }

        private static boolean isDigit(int sign) {
            return sign >= '0' && sign <= '9';
        }

        /** The byte that stands next, -1 at the end. */
        private int next() {
            return at >= 0 && at < length && at < bytes.length ? bytes[at] : -1;
        }

        private void take(int sign) {
            if (next() == sign) {
                at++;
            } else {
                fail(1);
            }
        }

        /** Only the first FAULT counts. */
        private void fail(int number) {
            if (fault == 0) {
                fault = faultOf(number, at);
            }
        }
    }

    /** THE LAW asked of STATES, and what a STEP makes of them. */
    private static final class Ride {
        private final Street way;
        private final Queue people;
        private final Store store;
        private final int[] told = new int[10];
        private Text law = new Text();
        /** STEPS more of BOARDING than THE QUEUE takes. */
        private int longer = 0;
        /** Changes with all by which a VALUE is reckoned. */
        private int age = 0;

        Ride(Street way, Queue people, Store store) {
            this.way = way;
            this.people = people;
            this.store = store;
        }

        int stepCount() {
            return store.stepCount;
        }

        /** What a TEXT says to a letter; of THE LAW within its bounds, by pace and wave if there is an ACTION. */
        int ask(Text text, int letter, int t, int place, int action) {
            if (!text.has(letter)) {
                return 0;
            }
            tell(t, place, action);
            for (int i = 0; i < text.clauses; i++) {
                if (item(text.letters, i) == letter && text.run(item(text.conditions, i), told) != 0) {
                    return bounded(letter, text.run(item(text.heads, i), told));
                }
            }
            return 0;
        }

        private static int bounded(int letter, int x) {
            int i = LAW_LETTERS.indexOf((char) letter);
            return i < 0 ? x : Math.max(0, Math.min(item(BOUNDS, i), x));
        }

        private void tell(int t, int place, int action) {
            told[0] = t;
            told[1] = store.stepCount;
            told[2] = yardsAt(place);
            told[3] = breathAt(place);
            told[4] = isSeenAt(place) ? 1 : 0;
            told[5] = place & RAN;
            told[6] = item(people.waiting, t);
            told[7] = item(way.kinds, told[2]);
            told[8] = action & 3;
            told[9] = action > NEVER_AN_ACTION ? 1 : 0;
        }

        /** The ACTION by a RULE. */
        int ruled(Text rule, int t, int place) {
            int action = ask(rule, 'a', t, place, 0);
            return isMove(action) && behind(t, place, action) >= 0 ? action : 0;
        }

        /** The place behind an ACTION other than 0, SEEN as it was; less than 0: it may not be. */
        int behind(int t, int place, int action) {
            int left = breathAt(place) - ask(law, 'w', t, place, action);
            if (left < 0) {
                return MAY_NOT_BE;
            }
            int yards = Math.max(0, yardsAt(place) - ask(law, 'y', t, place, action));
            int breath = Math.min(MOST_BREATH, left + ask(law, 'b', t, place, action));
            boolean ran = (place & RAN) != 0 || (action & 3) == 3;
            return placeOf(yards, breath, isSeenAt(place), ran);
        }

        /** Tenths that he is SEEN behind an ACTION from a place. */
        int tenthsSeen(int t, int place, int action) {
            return isSeenAt(place) ? 10 : ask(law, 's', t, place, action);
        }

        boolean mayGo(int t) {
            return t >= people.boarding + longer - 1;
        }

        /** Tenths that the bus goes in a STEP behind which he stands at a place. */
        int tenthsGone(int t, int place) {
            return mayGo(t) ? ask(law, 'g', t, place, 0) : 0;
        }
    }

    /** BEST. */
    private static final class Best {
        private static final int PLAIN = 0;
        private static final int NO_WAVES = 1;
        private static final int LONGER = 2;

        private final Ride ride;
        private final long[] values = new long[MOST_STEPS * PLACES];
        /** By what each of the values was reckoned, and the ACTION. */
        private final int[] marks = new int[MOST_STEPS * PLACES];
        private int manner = PLAIN;

        Best(Ride ride) {
            this.ride = ride;
        }

        /** The VALUE, times 100 for each STEP that is left. */
        private long value(int t, int place) {
            int n = ride.stepCount();
            if (yardsAt(place) == 0) {
                return ride.ask(ride.law, 'v', t, place, 0) * hundreds(n - t);
            }
            if (t >= n || t >= MOST_STEPS) {
                return -ride.ask(ride.law, 'm', t, place, 0);
            }
            int i = t * PLACES + place;
            int mark = ride.age * 3 + manner + 1;
            if (item(marks, i) >> 3 == mark) {
                return longItem(values, i);
            }
            int chosen = 0;
            long most = worth(t, place, 0);
            int last = manner == NO_WAVES ? 3 : LAST_ACTION;
            for (int action = 1; action <= last; action++) {
                long worth = isMove(action) ? worth(t, place, action) : NO_VALUE;
                if (worth > most) {
                    most = worth;
                    chosen = action;
                }
            }
            put(marks, i, mark << 3 | chosen);
            putLong(values, i, most);
            return most;
        }

        /** The ACTION of BEST, NONE where there is nothing to choose any more. */
        int action(int t, int place) {
            if (yardsAt(place) == 0 || t >= ride.stepCount()) {
                return NONE;
            }
            value(t, place);
            return item(marks, t * PLACES + place) & 7;
        }

        /** The VALUE of an ACTION with BEST behind it; NO_VALUE: it may not be. */
        private long worth(int t, int place, int action) {
            long rest = hundreds(ride.stepCount() - t - 1);
            if (action == 0) {
                return -100L * ride.ask(ride.law, 'l', t, place, 0) * rest;
            }
            int next = ride.behind(t, place, action);
            if (next < 0) {
                return NO_VALUE;
            }
            int tenths = ride.tenthsSeen(t, place, action);
            long total = 0;
            for (int seen = 0; seen < 2; seen++) {
                long chance = seen == 1 ? tenths : 10 - tenths;
                int there = seen == 1 ? next | SEEN : next;
                if (chance > 0 && yardsAt(there) == 0) {
                    total += 10 * chance * ride.ask(ride.law, 'v', t, there, 0) * rest;
                } else if (chance > 0) {
                    int gone = ride.tenthsGone(t, there);
                    total -= gone == 0 ? 0 : chance * gone * ride.ask(ride.law, 'm', t, there, 0) * rest;
                    total += gone == 10 ? 0 : chance * (10 - gone) * value(t + 1, there);
                }
            }
            return total;
        }

        long waveWorth(int place) {
            long plain = value(0, place);
            manner = NO_WAVES;
            long without = value(0, place);
            manner = PLAIN;
            return plain - without;
        }

        long boardingWorth(int place) {
            long plain = value(0, place);
            manner = LONGER;
            ride.longer = 1;
            long with = value(0, place);
            manner = PLAIN;
            ride.longer = 0;
            return with - plain;
        }

        /** The VALUE ahead of a STEP by one and the same ACTION till he is round the corner. */
        private long unseeing(int t, int place, boolean gone, int action, int corner) {
            int n = ride.stepCount();
            if (yardsAt(place) <= corner || t >= n) {
                return gone ? -ride.ask(ride.law, 'm', t, place, 0) * hundreds(n - t) : value(t, place);
            }
            int next = ride.behind(t, place, action);
            if (next < 0) {
                return -ride.ask(ride.law, 'l', t, place, 0) * hundreds(n - t);
            }
            if (gone) {
                return 100 * unseeing(t + 1, next, true, action, corner);
            }
            int tenths = ride.tenthsSeen(t, place, action);
            long total = 0;
            for (int seen = 0; seen < 2; seen++) {
                long chance = seen == 1 ? tenths : 10 - tenths;
                int there = seen == 1 ? next | SEEN : next;
                if (chance > 0 && yardsAt(there) == 0) {
                    total += 10 * chance * ride.ask(ride.law, 'v', t, there, 0) * hundreds(n - t - 1);
                } else if (chance > 0) {
                    int goes = ride.tenthsGone(t, there);
                    total += goes == 0 ? 0 : chance * goes * unseeing(t + 1, there, true, action, corner);
                    total += goes == 10 ? 0 : chance * (10 - goes) * unseeing(t + 1, there, false, action, corner);
                }
            }
            return total;
        }
    }

    /** What can come by ACTIONS that are told ahead: by a RULE, or as a row. */
    private static final class Course {
        private static final int VALUE = 0;
        private static final int CAUGHT = 1;
        private static final int MISSED = 2;
        private static final int LET_GO = 3;
        private static final int YARDS = 4;
        private static final int SUMS = 5;
        /** Ahead of a STEP he is not SEEN, or SEEN since one of the STEPS before. */
        private static final int BRANCHES = 10;

        private final Ride ride;
        /** Ahead of each STEP how many STATES there can be, where, and how likely (of 100 for each STEP before). */
        private final int[] counts = new int[MOST_STEPS + 1];
        private final int[] places = new int[(MOST_STEPS + 1) * BRANCHES];
        private final long[] weights = new long[(MOST_STEPS + 1) * BRANCHES];
        /** What has come out ahead of each STEP, of 100 for each STEP there is. */
        private final long[] sums = new long[(MOST_STEPS + 1) * SUMS];
        private final int[] row = new int[MOST_BLIND];
        private final int[] bestRow = new int[MOST_BLIND];
        private long rowValue = 0;
        private int soughtAge = -1;
        private int soughtPlace = -1;

        Course(Ride ride) {
            this.ride = ride;
        }

        long sum(int t, int which) {
            return longItem(sums, t * SUMS + which);
        }

        void follow(Text rule, int from, int place) {
            int n = ride.stepCount();
            begin(from, place);
            for (int t = from; t < n; t++) {
                advance(t, 0, rule);
            }
            end(n);
        }

        /** Gets ready for the rows from a place; false: the best of them is known. */
        boolean turnTo(int place) {
            if (soughtAge == ride.age && soughtPlace == place) {
                return false;
            }
            soughtAge = ride.age;
            soughtPlace = place;
            rowValue = NO_VALUE;
            begin(0, place);
            return true;
        }

        /** The best of the rows that are alike ahead of STEP t. */
        private void search(int t) {
            if (t >= ride.stepCount() || t >= MOST_BLIND || item(counts, t) == 0) {
                end(t);
                // rows come least first, and behind the end 0 is least
                if (sum(t, VALUE) > rowValue) {
                    rowValue = sum(t, VALUE);
                    for (int i = 0; i < bestRow.length; i++) {
                        bestRow[i] = i < t ? item(row, i) : 0;
                    }
                }
                return;
            }
            for (int action = 0; action <= LAST_ACTION; action++) {
                if (action != NEVER_AN_ACTION) {
                    put(row, t, action);
                    advance(t, action, null);
                    search(t + 1);
                }
            }
        }

        private void begin(int t, int place) {
            for (int i = 0; i < SUMS; i++) {
                putLong(sums, t * SUMS + i, 0);
            }
            put(counts, t, 0);
            if (yardsAt(place) > 0) {
                branch(t, place, 1);
                return;
            }
            long all = hundreds(ride.stepCount() - t);
            gather(t, CAUGHT, all);
            gather(t, VALUE, all * ride.ask(ride.law, 'v', t, place, 0));
        }

        private void branch(int t, int place, long weight) {
            int i = t * BRANCHES + item(counts, t);
            put(places, i, place);
            putLong(weights, i, weight);
            put(counts, t, item(counts, t) + 1);
        }

        private void gather(int t, int which, long amount) {
            putLong(sums, t * SUMS + which, sum(t, which) + amount);
        }

        /** From ahead of STEP t to ahead of the next one, by an ACTION, or by a RULE if there is one. */
        private void advance(int t, int action, Text rule) {
            for (int i = 0; i < SUMS; i++) {
                putLong(sums, (t + 1) * SUMS + i, sum(t, i));
            }
            put(counts, t + 1, 0);
            for (int i = 0; i < item(counts, t) && i < BRANCHES; i++) {
                int place = item(places, t * BRANCHES + i);
                long weight = longItem(weights, t * BRANCHES + i);
                int chosen = rule == null ? action : ride.ruled(rule, t, place);
                int next = chosen == 0 ? MAY_NOT_BE : ride.behind(t, place, chosen);
                if (next < 0) {
                    long all = weight * hundreds(ride.stepCount() - t);
                    gather(t + 1, LET_GO, all);
                    gather(t + 1, VALUE, -all * ride.ask(ride.law, 'l', t, place, 0));
                    continue;
                }
                int tenths = ride.tenthsSeen(t, place, chosen);
                arrive(t, next | SEEN, weight * tenths);
                arrive(t, next, weight * (10 - tenths));
            }
        }

        private void arrive(int t, int place, long weight) {
            if (weight == 0) {
                return;
            }
            long all = weight * hundreds(ride.stepCount() - t - 1);
            if (yardsAt(place) == 0) {
                gather(t + 1, CAUGHT, 10 * all);
                gather(t + 1, VALUE, 10 * all * ride.ask(ride.law, 'v', t, place, 0));
                return;
            }
            int gone = ride.tenthsGone(t, place);
            if (gone > 0) {
                miss(t + 1, all * gone, place, ride.ask(ride.law, 'm', t, place, 0));
            }
            if (gone < 10) {
                branch(t + 1, place, weight * (10 - gone));
            }
        }

        private void miss(int row, long all, int place, int cost) {
            gather(row, MISSED, all);
            gather(row, VALUE, -all * cost);
            gather(row, YARDS, all * yardsAt(place));
        }

        /** Ahead of STEP n the bus goes; where no STATE is left nothing changes. */
        private void end(int t) {
            for (int i = 0; i < item(counts, t) && i < BRANCHES; i++) {
                int place = item(places, t * BRANCHES + i);
                miss(t, longItem(weights, t * BRANCHES + i), place, ride.ask(ride.law, 'm', t, place, 0));
            }
        }
    }

    /** THE LOG of what was DRAWN. */
    private static final class Log {
        private static final int CAUGHT = 1;
        private static final int MISSED = 2;
        private static final int LET_GO = 3;

        private final Ride ride;
        private final Store store;
        private int length = 0;
        /** 0: there is none. */
        private int ended = 0;
        private final int[] actions = new int[MOST_STEPS];
        private final int[] places = new int[MOST_STEPS + 1];

        Log(Ride ride, Store store) {
            this.ride = ride;
            this.store = store;
        }

        void fall() {
            length = 0;
            ended = 0;
        }

        int placeAt(int step) {
            return item(places, step);
        }

        int actionAt(int step) {
            return item(actions, step);
        }

        void play(Text rule, int place) {
            fall();
            put(places, 0, place);
            ended = yardsAt(place) == 0 ? CAUGHT : 0;
            for (int t = 0; t < store.stepCount && ended == 0; t++) {
                ended = step(rule, t);
                length = t + 1;
            }
            ended = ended == 0 ? MISSED : ended;
        }

        /** One STEP: how it ended, 0 if it goes on. */
        private int step(Text rule, int t) {
            int place = placeAt(t);
            int action = ride.ruled(rule, t, place);
            put(actions, t, action);
            if (action == 0) {
                put(places, t + 1, place);
                return LET_GO;
            }
            int next = ride.behind(t, place, action);
            if (!isSeenAt(place) && store.draw() < ride.tenthsSeen(t, place, action)) {
                next |= SEEN;
            }
            put(places, t + 1, next);
            if (yardsAt(next) == 0) {
                return CAUGHT;
            }
            return ride.mayGo(t) && store.draw() < ride.tenthsGone(t, next) ? MISSED : 0;
        }

        int told(int what) {
            if (what == 0) {
                return length;
            }
            if (what == 1) {
                return ended;
            }
            if (within(what, 10, 10 + length - 1)) {
                return actionAt(what - 10);
            }
            if (ended != 0 && within(what, 20, 20 + length)) {
                return yardsAt(placeAt(what - 20));
            }
            if (ended != 0 && within(what, 30, 30 + length)) {
                return isSeenAt(placeAt(what - 30)) ? 1 : 0;
            }
            return NONE;
        }
    }

    /** ODDS: above and below a line, without a common divisor. */
    private static final class Odds {
        private final Ride ride;
        private long above = 0;
        private long below = 1;

        Odds(Ride ride) {
            this.ride = ride;
        }

        long part(int what) {
            return what == 0 ? above : below;
        }

        /** Both are 0 or more, below is more. */
        void set(long over, long under) {
            long divisor = divisor(over, under);
            above = divisor == 0 ? 0 : over / divisor;
            below = divisor == 0 ? 1 : under / divisor;
        }

        private static long divisor(long one, long other) {
            long a = one;
            long b = other;
            // Euclid's rests halve in two turns: 126 are enough for 63 bits
            for (int turns = 0; turns < 130 && b != 0; turns++) {
                long rest = a % b;
                a = b;
                b = rest;
            }
            return a;
        }

        /** LEAVES in STEP j. */
        void findLeaving(int j, int place) {
            int n = ride.stepCount();
            long stays = 1;
            for (int i = 0; i < j && i < n; i++) {
                stays *= 10 - ride.tenthsGone(i, place);
            }
            if (j < n) {
                set(stays * ride.tenthsGone(j, place), tens(j + 1));
            } else {
                set(stays, tens(n));
            }
        }

        /** ODDS that the bus goes in a told STEP or behind it. */
        void findOver(int fromStep, int place) {
            int n = ride.stepCount();
            long stays = 1;
            long total = 0;
            for (int j = 0; j < n; j++) {
                int gone = ride.tenthsGone(j, place);
                total += j < fromStep ? 0 : stays * gone * tens(n - 1 - j);
                stays *= 10 - gone;
            }
            total += n < fromStep ? 0 : stays;
            set(total, tens(n));
        }

        /** HAD HE SEEN ME: 0, or what is told if there are no such ODDS. */
        int findSeen(int from, int action, int steps) {
            int place = from;
            long seen = 0;
            long not = 1;
            for (int t = 0; t < steps && t < MOST_STEPS; t++) {
                int tenths = ride.tenthsSeen(t, place, action);
                place = ride.behind(t, place, action);
                if (place < 0 || yardsAt(place) == 0) {
                    return -3;
                }
                seen = (10 * seen + tenths * not) * (10 - ride.tenthsGone(t, place | SEEN));
                not = (10 - tenths) * not * (10 - ride.tenthsGone(t, place));
            }
            if (seen + not == 0) {
                return -2;
            }
            set(seen, seen + not);
            return 0;
        }
    }

    /** A product of up to 60 tenths, which has up to 61 digits. */
    private static final class Product {
        private static final int BASE = 10000;

        /** Four digits each, the lowest first. */
        private final int[] digits = new int[16];

        /** How likely THE BOOK is by a guess, times 10 for each TRY. */
        void guess(int[] book, int seen, int not) {
            for (int i = 0; i < digits.length; i++) {
                digits[i] = i == 0 ? 1 : 0;
            }
            multiply(seen, item(book, 1));
            multiply(10 - seen, item(book, 0) - item(book, 1));
            multiply(not, item(book, 3));
            multiply(10 - not, item(book, 2) - item(book, 3));
        }

        private void multiply(int factor, int times) {
            for (int i = 0; i < times && i < MOST_TRIES; i++) {
                int carried = 0;
                for (int j = 0; j < digits.length; j++) {
                    int whole = digits[j] * factor + carried;
                    digits[j] = whole % BASE;
                    carried = whole / BASE;
                }
            }
        }

        int comparedWith(Product other) {
            for (int i = digits.length - 1; i >= 0; i--) {
                int order = Integer.compare(digits[i], item(other.digits, i));
                if (order != 0) {
                    return order;
                }
            }
            return 0;
        }
    }
}
