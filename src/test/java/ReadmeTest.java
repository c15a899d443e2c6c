import java.io.IOException;
import java.nio.file.Files;
import java.nio.file.Path;

/** The example of README.md: that it answers as it says there, and that it is what stands here. */
final class ReadmeTest {
    private static final String OWN = "src/test/java/ReadmeTest.java";

    private ReadmeTest() {
    }

    public static void main(String[] args) throws IOException {
        example();
        sameLines(Files.readString(Path.of("README.md")), Files.readString(Path.of(OWN)));
        Due.end();
    }

    private static void example() {
        RunForIt x = new RunForIt();
        boolean two = x.steps(2);
        int fed = x.feed(0x61000000, 0, 0, 0, 0);
        int boarding = x.queue(1);
        x.feed(0x7931302a, 0x6b28313d, 0x31293b76, 0x35302831, 0x3d31293b);
        x.feed(0x67352d34, 0x2a7a2831, 0x3d31293b, 0x73322b35, 0x2a612831);
        int more = x.feed(0x3d312900, 0, 0, 0, 0);
        int clauses = x.law(43);
        long value = x.best(0, 40, 9, false, false, 0);
        long action = x.best(0, 40, 9, false, false, 1);
        long leaves = x.leaves(0, 40, 9, false, false, 0);
        long of = x.leaves(0, 40, 9, false, false, 1);
        x.feed(0x30660000, 0, 0, 0, 0);
        int fault = x.street(2);
        int none = x.street(2);
        Due.is("two", true, two);
        Due.is("fed", 20, fed);
        Due.is("boarding", 1, boarding);
        Due.is("more", 60, more);
        Due.is("clauses", 4, clauses);
        Due.is("value", 390000, value);
        Due.is("action", 5, action);
        Due.is("leaves", 1, leaves);
        Due.is("of", 2, of);
        Due.is("fault", -3000, fault);
        Due.is("none", -1, none);
    }

    /** Each order of the page's example stands in example(), in the same order. */
    private static void sameLines(String page, String own) {
        int begin = page.indexOf("```java\n");
        int end = begin < 0 ? -1 : page.indexOf("```", begin + 8);
        Due.is("README.md has an example", true, end > 0);
        int at = own.indexOf("void example()");
        for (String line : end > 0 ? page.substring(begin + 8, end).split("\n") : new String[0]) {
            String order = line.replaceAll("//.*", "").trim();
            int found = own.indexOf("        " + order + "\n", at);
            Due.is("README.md: " + order, true, order.isEmpty() || found >= 0);
            at = order.isEmpty() || found < 0 ? at : found + 1;
        }
    }
}
