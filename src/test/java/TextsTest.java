/** Promises 2 to 7 and 35: STEPS, the tape, THE STREET, THE QUEUE, THE LAW, RULES and what is counted of them. */
final class TextsTest {
    private TextsTest() {
    }

    public static void main(String[] args) {
        steps();
        tape();
        street();
        streetFaults();
        queue();
        clauses();
        lengths();
        onlyTheFirst();
        clauseFaults();
        depths();
        arithmetic();
        wraps();
        conditions();
        refusals();
        lettersTold();
        counts();
        Due.end();
    }

    private static void steps() {
        RunForIt x = new RunForIt();
        for (int n = 1; n <= 8; n++) {
            Due.is("steps " + n, true, x.steps(n));
            Due.is("count of STEPS", n, x.count(0));
        }
        for (int n : new int[] {0, 9, -1, Integer.MIN_VALUE, Integer.MAX_VALUE}) {
            Due.is("steps " + n, false, x.steps(n));
        }
        Due.is("STEPS stay", 8, x.count(0));
    }

    private static void tape() {
        RunForIt x = new RunForIt();
        for (int i = 1; i <= 13; i++) {
            Due.is("feed " + i, 20 * i, x.feed(0x35662c35, 0x66000000, -1, Integer.MIN_VALUE, 0));
        }
        Due.is("a 14th feed", -1, x.feed(0, 0, 0, 0, 0));
        Due.is("the tape stays", 260, x.count(5));
        Due.is("no such n", -1, x.street(81));
        Due.is("no such n", -1, x.street(0));
        Due.is("no such n", -1, x.street(Integer.MIN_VALUE));
        Due.is("the tape stays", 260, x.count(5));
        Due.is("highest byte first: 5f,5f", 10, x.street(5));
        Due.is("the whole tape is emptied", 0, x.count(5));
        Due.is("it has not so many", -1, x.street(1));
        x.feed(0x35663566, 0, 0, 0, 0);
        Due.is("it has not so many", -1, x.street(21));
        Due.is("a FAULT", -1002, x.street(20));
        Due.is("empty behind a FAULT, too", 0, x.count(5));
        x.feed(0x61000000, 0, 0, 0, 0);
        x.feed(0x63000000, 0, 0, 0, 0);
        Due.is("behind the tape, not ahead", 1, x.queue(1));
        x.feed(-1, -1, -1, -1, -1);
        Due.is("bytes up to 255", -1000, x.law(1));
    }

    private static void street() {
        RunForIt x = new RunForIt();
        Due.is("no STREET", 0, x.count(100));
        Due.is("no STREET", 0, x.count(220));
        Due.is("every KIND", 10, Due.street(x, "1f,2u,3w,04s"));
        int[] kinds = {3, 3, 3, 3, 3, 2, 2, 2, 1, 1, 0, 0};
        for (int d = 0; d < kinds.length; d++) {
            Due.is("KIND with " + d + " left", kinds[d], x.count(100 + d));
        }
        Due.is("more than THE STREET has", 0, x.count(220));
        Due.is("in place of it", 120, Due.street(x, "99s,21w"));
        Due.is("120 YARDS", 3, x.count(220));
        Due.is("the yard behind 99", 2, x.count(121));
        Due.is("the 99th yard", 3, x.count(122));
        Due.is("0 left: the last one", 2, x.count(100));
        Due.is("12 PIECES", 12, Due.street(x, "1f,1f,1f,1f,1f,1f,1f,1f,1f,1f,1f,1s"));
        Due.is("count of YARDS", 12, x.count(1));
        Due.is("80 bytes", -1047, Due.street(x, "10f,".repeat(11) + "10f" + "x".repeat(33)));
        Due.is("the one before stays", 12, x.count(1));
        Due.is("its KINDS, too", 3, x.count(101));
        Due.is("its KINDS, too", 0, x.count(102));
    }

    private static void streetFaults() {
        RunForIt x = new RunForIt();
        String twelve = "1f,1f,1f,1f,1f,1f,1f,1f,1f,1f,1f,1f,";
        String[] texts = {"x", "f", ",", "5", "55", "5x", "555f", "5f5", "5f,", "5f,,", "5f 5f", "5F", "0f", "00f",
            "000f", "0", "0x", "00", "5f,0f", "5f,00", "01f,010f", "99f,22f", "99f,22", "99f,22x", "99f,21f,1u",
            "99f,21f,0u", twelve, twelve + "1f", twelve + "0f", twelve + "x", twelve + "9",
            "99f,1f,1f,1f,1f,1f,1f,1f,1f,1f,1f,1f,99f", "5f\0", "-5f", " 5f", "5 f", "5f ,5f", "5f, 5f", ":f", "5:f", "/f",
            "5/f", "1f,99f,21f", "1f,99f,020f", "99f,99f,99f", "60f,60f,0f", "60f,60f,1x",
            "99f,22f5", "99f,22f,"};
        int[] due = {-1000, -1000, -1000, -1001, -1002, -1001, -1002, -1002, -1003, -1003, -1002, -1001, -3000, -3000,
            -3000, -3000, -3000, -3000, -3003, -3003, -1006, -6004, -1006, -1006, -6008, -3008, -1036, -4036, -4036,
            -1036, -4036, -4037, -1002, -1000, -1000, -1001, -1002, -1003, -1000, -1001, -1000,
            -1001, -6007, -1009, -6004, -3008, -1009, -6004, -6004};
        for (int i = 0; i < texts.length; i++) {
            Due.is("street " + texts[i], due[i], Due.street(x, texts[i]));
        }
        Due.is("none stands", 0, x.count(1));
    }

    private static void queue() {
        RunForIt x = new RunForIt();
        Due.is("acop", 10, Due.queue(x, "acop"));
        int[] waiting = {4, 3, 3, 2, 2, 2, 1, 1, 1, 1, 0, 0};
        for (int t = 0; t < waiting.length; t++) {
            Due.is("not on at the begin of STEP " + t, waiting[t], x.count(300 + t));
        }
        Due.is("a FAULT", -1002, Due.queue(x, "aab"));
        Due.is("a FAULT", -1000, Due.queue(x, "A"));
        Due.is("stays", 10, x.count(2));
        x.feed(0, 0, 0, 0, 0);
        Due.is("no such n", -1, x.queue(17));
        Due.is("no such n", -1, x.queue(-1));
        Due.is("the tape stays", 20, x.count(5));
        Due.is("sixteen prams", 64, Due.queue(empty(x), "pppppppppppppppp"));
        Due.is("not on at 63", 1, x.count(363));
        Due.is("on at 64", 0, x.count(364));
        Due.is("sixteen", 16, x.count(3));
        x.feed(0, 0, 0, 0, 0);
        Due.is("nobody", 0, x.queue(0));
        Due.is("emptied, too", 0, x.count(5));
        Due.is("B", 0, x.count(2));
        Due.is("nobody waits", 0, x.count(300));
        x.feed(0x61616161, 0, 0, 0, 0);
        Due.is("it has not so many", 4, x.queue(4));
        Due.is("it has not so many", -1, x.queue(1));
    }

    private static RunForIt empty(RunForIt x) {
        x.check(0);
        return x;
    }

    private static void clauses() {
        RunForIt x = new RunForIt();
        String sixteen = "y1(1=1)" + ";y1(1=1)".repeat(15);
        Due.is("16 CLAUSES", 16, Due.law(x, sixteen));
        Due.is("a 17th", -4128, Due.law(x, sixteen + ";y"));
        Due.is("a 17th that can't stand", -1128, Due.law(x, sixteen + ";a"));
        Due.is("the one before stays", 16, x.count(4));
        Due.is("every letter", 8, Due.law(x, "y1(1=1);w1(1=1);b1(1=1);s1(1=1);g1(1=1);v1(1=1);m1(1=1);l1(1=1)"));
        Due.is("240 bytes", 1, Due.law(x, "y12" + "+1".repeat(116) + "(1=1)"));
        Due.is("240 bytes are read", -1240, Due.law(x, "y1" + "+1".repeat(116) + "(1=1);"));
        x.feed(0, 0, 0, 0, 0);
        Due.is("no such n", -1, x.law(0));
        Due.is("no such n", -1, x.law(241));
        Due.is("it has not so many", -1, x.law(21));
        Due.is("the tape stays", 20, x.count(5));
        empty(x);
        for (int k = 0; k < 4; k++) {
            Due.is("RULE " + k, k + 1, Due.rule(x, k, "a1(1=1)" + ";a2(1=1)".repeat(k)));
        }
        for (int k = 0; k < 4; k++) {
            Due.is("count of RULE " + k, k + 1, x.count(10 + k));
        }
        Due.is("a FAULT", -1000, Due.rule(x, 1, "y1(1=1)"));
        Due.is("stays", 2, x.count(11));
        Due.is("in place of it", 16, Due.rule(x, 1, sixteen.replace('y', 'a')));
        Due.is("16 of a RULE", 16, x.count(11));
        Due.is("a 17th of a RULE", -4128, Due.rule(x, 1, sixteen.replace('y', 'a') + ";a"));
        x.feed(0x61312831, 0x3d312900, 0, 0, 0);
        Due.is("no such RULE", -1, x.rule(4, 7));
        Due.is("no such RULE", -1, x.rule(-1, 7));
        Due.is("no such n", -1, x.rule(0, 0));
        Due.is("no such n", -1, x.rule(0, 241));
        Due.is("it has not so many", -1, x.rule(0, 21));
        Due.is("the tape stays", 20, x.count(5));
        Due.is("the others stay", 3, x.count(12));
        Due.is("a1(1=1)", 1, x.rule(2, 7));
        Due.is("emptied", 0, x.count(5));
    }

    /** Which n there are, on a tape that has more bytes. */
    private static void lengths() {
        RunForIt x = new RunForIt();
        for (int n : new int[] {-1, 0, 1, 2, 239, 240, 241, 260, 261}) {
            boolean is = n >= 1 && n <= 240;
            fill(x);
            Due.is("law " + n, is ? n < 3 ? -1000 - n : -2006 : -1, x.law(n));
            Due.is("tape behind law " + n, is ? 0 : 260, x.count(5));
            fill(x);
            Due.is("rule " + n, is ? -1000 : -1, x.rule(0, n));
            Due.is("tape behind rule " + n, is ? 0 : 260, x.count(5));
        }
        for (int n : new int[] {-1, 0, 1, 2, 16, 17, 79, 80, 81}) {
            fill(x);
            Due.is("street " + n, n >= 1 && n <= 80 ? -1000 : -1, x.street(n));
            Due.is("tape behind street " + n, n >= 1 && n <= 80 ? 0 : 260, x.count(5));
            fill(x);
            Due.is("queue " + n, n >= 1 && n <= 16 ? -1000 : n == 0 ? 0 : -1, x.queue(n));
            Due.is("tape behind queue " + n, n >= 0 && n <= 16 ? 0 : 260, x.count(5));
        }
        fill(x);
        x.queue(0);
        for (int i = 0; i < 12; i++) {
            x.feed(0x61312831, 0x3d312900, 0, 0, 0);
        }
        Due.is("240 bytes of a tape of 240", -1007, x.rule(0, 240));
    }

    /** A tape of 260 bytes that begins with y12345678. */
    private static void fill(RunForIt x) {
        while (x.feed(0x79313233, 0x34353637, 0x38000000, 0, 0) != -1) {
            continue;
        }
    }

    /** What stands on the tape behind the first n bytes is no part of a TEXT. */
    private static void onlyTheFirst() {
        String[] streets = {"5f", "55f", "5f,5f", "5f,5f,5f", "5f5"};
        int[] of = {1, 1, 3, 6, 2};
        int[] due = {-1001, -1001, -1003, -1006, 5};
        for (int i = 0; i < streets.length; i++) {
            RunForIt x = new RunForIt();
            Due.feed(x, streets[i]);
            Due.is("street " + of[i] + " of " + streets[i], due[i], x.street(of[i]));
        }
        String law = "y12+t(t=[1]&1=1);y1(1=1)";
        for (int n = 1; n <= law.length(); n++) {
            RunForIt x = new RunForIt();
            Due.feed(x, law);
            Due.is("law " + n + " of " + law, n == 16 ? 1 : n == 24 ? 2 : -1000 - n, x.law(n));
        }
    }

    private static void clauseFaults() {
        RunForIt x = new RunForIt();
        String[] texts = {"", "a1(1=1)", "Y1(1=1)", "y", "y(1=1)", "y1", "y1(", "y1(1", "y1(1=", "y1(1=1", "y1(1=1)x",
            "y1(1=1);", "y1(1=1);;", "y1 (1=1)", "y-1(1=1)", "y1+(1=1)", "y1**1(1=1)", "y1(1)", "y1(1=1=1)", "y1(1==1)",
            "y1(1=1&)", "y1(1=1||1=1)", "y1(&1=1)", "y1(!)", "y1(!1)", "y1((1=1)", "y1((1)=1)", "y1((1=1)=1)", "y1[1](1=1)",
            "y[1(1=1)", "y[](1=1)", "y[1=1](1=1)", "y12345(1=1)", "y123456(1=1)", "y000001(1=1)", "y1(123456=1)",
            "y1(1=123456)", "yx(1=1)", "yv(1=1)", "yT(1=1)", "y1(1=1)|(1=1)", "y1(1=1))", "y1(1=1|!)", "y1(1=1]", "yt1(1=1)", " y1(1=1)",
            "y1(1=1) ", "y1( 1=1)", "y1(1=1); y1(1=1)", "y:(1=1)", "y1:(1=1)", "y/(1=1)", "y1(1:=1)", "y1(1;1)", "y1;", "y1]",
            "y[1", "y[1)", "y1([1)=1)", "y0(1=1);0", "y1(1=1),y1(1=1)"};
        int[] due = {-1, -1000, -1000, -1001, -1001, -1002, -1003, -1004, -1005, -1006, -1007,
            -1008, -1008, -1002, -1001, -1003, -1003, -1004, -1006, -1005,
            -1007, -1007, -1003, -1004, -1005, -1008, -1005, -1008, -1002,
            -1003, -1002, -1003, 1, -2006, -2006, -2008,
            -2010, -1001, -1001, -1001, -1007, -1007, -1008, -1006, -1002, -1000,
            -1007, -1003, -1008, -1001, -1002, -1001, -1004, -1004, -1002, -1002,
            -1003, -1003, -1005, -1008, -1007};
        for (int i = 0; i < texts.length; i++) {
            Due.is("law " + texts[i], due[i], Due.law(x, texts[i]));
        }
    }

    private static void depths() {
        RunForIt x = new RunForIt();
        Due.is("six of [", 1, Due.law(x, "y[[[[[[1]]]]]](1=1)"));
        Due.is("a seventh [", -5007, Due.law(x, "y[[[[[[[1]]]]]]](1=1)"));
        Due.is("six of ( with the CLAUSE's", 1, Due.law(x, "y1((((((1=1))))))"));
        Due.is("a seventh (", -5008, Due.law(x, "y1(((((((1=1)))))))"));
        Due.is("six of ( and !", 1, Due.law(x, "y1(!!!!!1=1)"));
        Due.is("a seventh, !", -5008, Due.law(x, "y1(!!!!!!1=1)"));
        Due.is("a seventh, [ behind !", -5008, Due.law(x, "y1(!!!!![1]=1)"));
        Due.is("a seventh, ( behind !", -5008, Due.law(x, "y1(!!!!!(1=1))"));
        Due.is("! is open till its PIECE ends", -5010, Due.law(x, "y1(!!!!!1=[1])"));
        Due.is("not behind it", 1, Due.law(x, "y1(!!!!!1=1&[1]=1|!!!!!1=1)"));
        Due.is("closed ones do not count", 1, Due.law(x, "y[1]+[1]+[1]+[1]+[1]+[1]+[1](([1]=[1])&([1]=[1])&([1]=1))"));
        Due.is("what can't stand there is no seventh", -1008, Due.law(x, "y[[[[[[1[]]]]]](1=1)"));
        Due.is("five of [ within the CLAUSE", 1, Due.law(x, "y1([[[[[1]]]]]=1)"));
        Due.is("a sixth of [ within it", -5008, Due.law(x, "y1([[[[[[1]]]]]]=1)"));
    }

    /** y of an expression: YARDS less of 120 by it in STEP 3 of 8 with BREATH 4. */
    private static int reckoned(String expression) {
        RunForIt x = new RunForIt();
        x.steps(8);
        Due.queue(x, "aapo");
        Due.is("law " + expression, 1, Due.law(x, "y" + expression + "(1=1)"));
        return 120 - x.after(3, 120, 4, true, true, 7, 0);
    }

    private static void arithmetic() {
        String[] texts = {"7", "00042", "2+3*4", "20-3-4", "90/9/2", "90/9*2", "90%40/3", "2*3+4*5-6/2", "[2+3]*4",
            "100-[20-3]", "7/2", "99+99", "1-2", "[1-8]/2+50", "[1-8]%4+50", "65536*65536+9", "46341*46341/99999+22000",
            "99999*99999*99999%99", "t", "n", "d/2", "e", "z", "r", "p", "q", "k", "a", "t*10+k", "[[[9]]]",
            "65535*32768+32768-1-2+3-99999*21474-97500", "[32768*65536]/[0-1]+7-32768*65536", "[32768*65536]%[0-1]+5",
            "1/0", "5+7%0", "5+0*[1/0]", "1+9/[t-3]"};
        int[] due = {7, 42, 14, 13, 5, 20, 3, 23, 20,
            83, 3, 99, 0, 47, 47, 9, 526,
            0, 3, 8, 60, 4, 1, 1, 2, 0, 3, 1, 33, 9,
            0, 7, 5,
            0, 0, 0, 0};
        due[16] = bounded(46341 * 46341 / 99999 + 22000);
        due[17] = bounded(99999 * 99999 * 99999 % 99);
        due[30] = bounded(65535 * 32768 + 32768 - 1 - 2 + 3 - 99999 * 21474 - 97500);
        for (int i = 0; i < texts.length; i++) {
            Due.is("y" + texts[i], due[i], reckoned(texts[i]));
        }
    }

    /** 32 bits, as the machine does: over the greatest and the least there is, and what is left of a division. */
    private static void wraps() {
        String greatest = "32768*65535+32767";
        String least = "32768*65536";
        String[] so = {"99999*99999=14098*10000*10+65409", "65536*65536=0", greatest + ">0", greatest + "+1<0",
            greatest + "+1=" + least, least + "<0", least + "-1>0", least + "-1=" + greatest, "0-[" + least + "]=" + least,
            "[" + least + "]/[0-1]=" + least, "[" + least + "]%[0-1]=0", "[" + least + "]*[0-1]=" + least, "[0-7]/2=0-3",
            "[0-7]%2=0-1", "7/[0-2]=0-3", "7%[0-2]=1", "0/7=0", "[" + least + "]/2+32768*32768=0",
            "[" + greatest + "]*2=0-2", "[" + greatest + "]*[" + greatest + "]=1"};
        for (String condition : so) {
            Due.is(condition, true, holds(condition));
        }
        Due.is("six of [, a sum and a product open in each", 8, reckoned("1+1*[1+1*[1+1*[1+1*[1+1*[1+1*[2]]]]]]"));
        Due.is("an E over the greatest is less than 0, and so 0", 0, reckoned(greatest + "+1"));
        Due.is("an E under the least is more than 99, and so 99", 99, reckoned(least + "-1"));
    }

    private static int bounded(int x) {
        return Math.max(0, Math.min(99, x));
    }

    /** Whether a condition holds in STEP 3 of 8, with 120 YARDS and BREATH 4, running and waving. */
    private static boolean holds(String condition) {
        RunForIt x = new RunForIt();
        x.steps(8);
        Due.is("law " + condition, 1, Due.law(x, "y1(" + condition + ")"));
        return x.after(3, 120, 4, true, true, 7, 0) == 119;
    }

    private static void conditions() {
        String[] so = {"1=1", "1<2", "2>1", "t=3", "!1=2", "!!1=1", "(1=1)", "1=2|1=1", "1=1|1=2&1=2", "(1=1|1=2)&1=1",
            "!(1=1&1=2)", "!1=2&1=1", "1=2&1=1|1=1", "d=120&e=4&k=3&a=1", "1+1=2", "[1]=1", "0-1<0", "1=1|1/0=1",
            "1=2&1/0=1|1=1", "(1=1|1/0=1)", "!(1=2&1/0=1)", "1=1&(1=1|1/0=1)", "1=2|1=2|1=2|1=1", "1=1&1=1&1=1",
            "1=1&".repeat(50) + "1=1", "1=2|".repeat(50) + "1=1", "1=1&1=2|".repeat(28) + "1=1", "1=2&1=1&1=1|1=1",
            "1=1&1=2&1=1|1=1", "(1=1|1=2|1=2)&1=1", "(1=2|1=1|1=2)&1=1", "!(1=2&1=1&1=1)", "!(1=1&1=2&1=1)",
            "1=2&1=2&1=2|1=1", "1=2|1=1|1=2", "!1>2", "!2<1", "!!1<2", "!!2>1", "7/1=7", "7%1=0", "1%7=1",
            "1+1*[1+1*[1+1*[1+1*[1+1*[2]]]]]=7", "7=1+1*[1+1*[1+1*[1+1*[1+1*[2]]]]]"};
        String[] notSo = {"1=2", "1<1", "1>1", "2<1", "!1=1", "1=2|1=2", "1=1&1=2", "(1=1|1=2)&1=2", "1=1&1=2|1=2",
            "!(1=2|1=1)", "1/0=1", "1/0=0", "!1/0=1", "!(1/0=1)", "!!(1/0=1)", "1/0=1|1=1", "(1/0=1)|1=1",
            "1=1&1/0=1|1=1", "!(1=1&1/0=1)|1=1", "1=2|1%0=1|1=1", "0=[5%0]", "0-1>0", "1=1&".repeat(50) + "1=2",
            "1=2|".repeat(50) + "1=2", "(1=1|1=2|1=2)&1=2", "(1=2|1=1|1=2)&1=2", "!(1=1|1=2|1=2)", "!(1=2|1=1|1=2)",
            "1=2&1=1&1=1|1=2", "1=1&1=2&1=1", "1=2&1=1|1=1&1=2|1=2", "!1<2", "!2>1", "!(1<2)", "!(2>1)", "!!1>2"};
        for (String condition : so) {
            Due.is(condition, true, holds(condition));
        }
        for (String condition : notSo) {
            Due.is(condition, false, holds(condition));
        }
    }

    /** Of a letter the first CLAUSE whose C holds counts; beyond its bounds the bound. */
    private static void refusals() {
        RunForIt x = new RunForIt();
        Due.law(x, "y5(1/0=1);y6(1=2);w1(1=1);y7(1=1);y8(1=1)");
        Due.is("the first that holds", 13, x.after(0, 20, 9, false, false, 1, 0));
        Due.law(x, "y1/0(1=1);y7(1=1)");
        Due.is("its E is 0", 20, x.after(0, 20, 9, false, false, 1, 0));
        Due.law(x, "y7(1=2)");
        Due.is("none: 0", 20, x.after(0, 20, 9, false, false, 1, 0));
        Due.law(x, "y200(1=1);w0-5(1=1);b200(1=1);s11(z=0);g99(1=1)");
        Due.is("y 99 at most", 21, x.after(0, 120, 0, false, false, 1, 0));
        Due.is("w 0 at least, b 9 at most", 9, x.after(0, 120, 0, false, false, 1, 1));
        Due.is("s 10 at most", 10, x.after(0, 120, 0, false, false, 1, 2));
        Due.is("g 10 at most", 10, x.after(0, 120, 0, false, false, 1, 3));
        Due.law(x, "w200(1=1);y0-200(1=1);s0-1(1=1);g0-1(1=1)");
        Due.is("w 9 at most", 0, x.after(0, 120, 9, false, false, 1, 1));
        Due.is("y 0 at least", 120, x.after(0, 120, 9, false, false, 1, 0));
        Due.is("s 0 at least", 0, x.after(0, 120, 9, false, false, 1, 2));
        Due.is("g 0 at least", 0, x.after(0, 120, 9, false, false, 1, 3));
        x.steps(1);
        Due.law(x, "v100(1=1);m100(1=1);l100(1=1);g10(1=1)");
        Due.is("v 99 at most", 99, x.best(1, 0, 0, false, false, 0));
        Due.is("m 99 at most", -99, x.best(1, 1, 0, false, false, 0));
        Due.is("l 99 at most", -9900, x.best(0, 1, 0, false, false, 0));
        Due.law(x, "w9(1=1);l100(1=1)");
        Due.is("l 99 at most, and nothing else may be", -9900, x.best(0, 1, 8, false, false, 0));
        Due.law(x, "v0-1(1=1);m0-1(1=1);l0-1(1=1)");
        Due.is("v 0 at least", 0, x.best(1, 0, 0, false, false, 0));
        Due.is("m 0 at least", 0, x.best(1, 1, 0, false, false, 0));
        Due.is("l 0 at least", 0, x.best(0, 1, 0, false, false, 0));
    }

    /** Each letter tells what it should, k and a in y w b s alone. */
    private static void lettersTold() {
        RunForIt x = new RunForIt();
        x.steps(7);
        Due.street(x, "9w,1u");
        Due.queue(x, "aao");
        Due.law(x, "y1(t=2&n=7&d=10&e=6&z=0&r=1&p=1&q=2&k=2&a=1)");
        Due.is("all of them", 9, x.after(2, 10, 6, false, true, 6, 0));
        Due.is("another t", 10, x.after(1, 10, 6, false, true, 6, 0));
        Due.is("another BREATH", 10, x.after(2, 10, 5, false, true, 6, 0));
        Due.is("SEEN", 10, x.after(2, 10, 6, true, true, 6, 0));
        Due.is("not RUN", 10, x.after(2, 10, 6, false, false, 6, 0));
        Due.is("another pace", 10, x.after(2, 10, 6, false, true, 7, 0));
        Due.is("no wave", 10, x.after(2, 10, 6, false, true, 2, 0));
        Due.is("another KIND", 1, x.after(2, 1, 6, false, true, 6, 0));
        Due.law(x, "wk+a(1=1);bk*2+a(1=1);sk*2+a(1=1);gk+a+5(1=1);vk+a+6(1=1);mk+a+7(1=1);lk+a+8(1=1)");
        Due.queue(x, "");
        Due.is("w and b know the pace", 9, x.after(0, 10, 4, false, false, 3, 1) + 2);
        Due.is("and the wave", 9, x.after(0, 10, 4, false, false, 7, 1) + 2);
        Due.is("s too", 5, x.after(0, 10, 9, false, false, 6, 2));
        Due.is("g does not", 5, x.after(0, 10, 9, false, false, 7, 3));
        Due.is("v does not", 6, x.best(7, 0, 9, false, false, 0));
        Due.is("m does not", -7, x.best(7, 1, 9, false, false, 0));
        x.steps(1);
        Due.law(x, "w9(1=1);lk+a+8(1=1)");
        Due.is("l does not", -800, x.best(0, 1, 8, false, false, 0));
        Due.law(x, "y1(1=1)");
        Due.rule(x, 0, "ak+a+2(1=1)");
        Due.is("a RULE does not", 2, x.by(0, 0, 9, 0, false, false, 4));
    }

    private static void counts() {
        RunForIt x = new RunForIt();
        for (int what : new int[] {-1, 7, 8, 9, 14, 15, 99, 221, 299, 400, 1000, Integer.MIN_VALUE, Integer.MAX_VALUE}) {
            Due.is("count " + what, -1, x.count(what));
        }
        Due.is("up to 99 STEPS", 0, x.count(399));
        x.seed(4711);
        Due.is("X", 4711, x.count(6));
    }
}
