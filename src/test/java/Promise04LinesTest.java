/** Promise 4: the forms of the lines of a good text, and what their names must be. */
public final class Promise04LinesTest {
    private static final Checks checks = new Checks("Promise 4, lines");
    private static final String TWO = "S\ta\tA\nS\tb\tC\n";
    private static final String LINKED = TWO + "L\ta\t+\tb\t+\t0M\n";

    public static void main(String[] args) {
        checks.test("it consists of lines, none at all too", Promise04LinesTest::noLine);
        checks.test("each ended by the character 10", Promise04LinesTest::otherEnds);
        checks.test("each of one of these forms: an empty line is none", Promise04LinesTest::emptyLine);
        checks.test("each of one of these forms: other lines", Promise04LinesTest::otherLines);
        checks.test("each of one of these forms: every TAB is due, once", Promise04LinesTest::everyTab);
        checks.test("'H' and anything behind it", Promise04LinesTest::headings);
        checks.test("'S' TAB name TAB bases", Promise04LinesTest::formOfSegments);
        checks.test("the name is none of an earlier segment", Promise04LinesTest::namesOfSegments);
        checks.test("'L' TAB s TAB o TAB t TAB q TAB '0M'", Promise04LinesTest::formOfLinks);
        checks.test("o and q are each + or -", Promise04LinesTest::turnsOfLinks);
        checks.test("both segments stand in lines before", Promise04LinesTest::segmentsOfLinks);
        checks.test("no earlier link is the same", Promise04LinesTest::sameLink);
        checks.test("or the same turned about", Promise04LinesTest::sameLinkTurned);
        checks.test("other links of the same segments are good", Promise04LinesTest::otherLinks);
        checks.test("links of a segment to itself", Promise04LinesTest::linksToItself);
        checks.test("'P' TAB name TAB steps TAB '*'", Promise04LinesTest::formOfPaths);
        checks.test("steps: each with + or - behind it and ',' between", Promise04LinesTest::formOfSteps);
        checks.test("steps are names of segments of lines before", Promise04LinesTest::segmentsOfSteps);
        checks.test("the name is none of an earlier path", Promise04LinesTest::namesOfPaths);
        checks.test("the second one may follow the first one by a link", Promise04LinesTest::linksOfSteps);
        checks.test("for any two steps side by side", Promise04LinesTest::anyTwoSteps);
        checks.test("by a link of a line before", Promise04LinesTest::linksOfLinesBefore);
        checks.test("one step alone needs no link", Promise04LinesTest::oneStep);
        checks.end();
    }

    private static void good(String text, String sizes) {
        WalkAligner x = Calls.typed(text);
        checks.same("load() of " + Calls.shown(text), x.load(), 0);
        checks.same("sizes of " + Calls.shown(text), Calls.sizes(x), sizes);
    }

    private static void bad(String text, int line) {
        checks.same("load() of " + Calls.shown(text), Calls.typed(text).load(), -line);
    }

    private static void badBehind(String good, String... lines) {
        int number = good.split("\n").length + 1;
        for (String line : lines) {
            bad(good + line, number);
            bad(good + line + "\n", number);
            bad(good + line + "\nH\n", number);
        }
    }

    private static void noLine() {
        good("", "0 0 0 0");
    }

    private static void otherEnds() {
        for (String end : new String[] {"\t", " ", "\\", "n"}) {
            bad("S\ta\tA" + end, 1);
        }
        good("S\ta\tA\n", "1 0 0 2");
        good("H\n", "0 0 0 0");
    }

    private static void emptyLine() {
        bad("\n", 1);
        bad("\n\n", 1);
        bad("H\n\n", 2);
        bad("\nH\n", 1);
        bad("S\ta\tA\n\nS\tb\tA\n", 2);
        bad(Calls.CHAIN + "\n", 8);
    }

    private static void otherLines() {
        for (int code = 32; code <= 126; code++) {
            if ("HSLP".indexOf(code) < 0) {
                bad((char) code + "\n", 1);
                bad((char) code + "\tb\tA\n", 1);
            }
        }
        badBehind(TWO, "\t", "\tS\tc\tA", " H", "\tH", "s\tc\tA", "h", "l\ta\t+\tb\t+\t0M", "p\tp\ta+\t*", "#", "W\tc\tA");
    }

    private static void everyTab() {
        for (String line : new String[] {"S\tc\tAC", "L\ta\t+\tb\t-\t0M", "P\tp\ta+,b+\t*"}) {
            checks.same("load() of " + Calls.shown(line), Calls.typed(LINKED + line + "\n").load(), 0);
            for (int at = line.indexOf('\t'); at >= 0; at = line.indexOf('\t', at + 1)) {
                String before = line.substring(0, at);
                String behind = line.substring(at + 1);
                badBehind(LINKED, before + behind, before + "\t\t" + behind, before + " " + behind, before + "\n" + behind);
            }
        }
    }

    private static void headings() {
        good("H\n", "0 0 0 0");
        good("H\nH\n", "0 0 0 0");
        good("HH\n", "0 0 0 0");
        good("H\t\n", "0 0 0 0");
        good("H\tVN:Z:1.0\n", "0 0 0 0");
        good("HS\ta\tA\n", "0 0 0 0");
        bad("S\ta\tA\nH\nS\tb\tA\nH", 4);
        StringBuilder anything = new StringBuilder("H\t");
        for (char c = 32; c <= 126; c++) {
            anything.append(c);
        }
        good(anything + "\nS\ta\tA\n", "1 0 0 2");
        good(TWO + "H between\nL\ta\t+\tb\t+\t0M\nH\nP\tp\ta+,b+\t*\nH behind\n", "2 1 1 4");
    }

    private static void formOfSegments() {
        good("S\tc\tACGT\n", "1 0 0 8");
        badBehind(TWO, "S", "S\t", "S\tc", "S\tc\t", "S\t\tA", "S\t\t", "Sc\tA", "S\tcA", "S c\tA", "S\tc A", "S  c\tA",
                "S\t\tc\tA", "S\tc\t\tA", "SS\tc\tA", "S\t c\tA", "S\tc \tA", "S\tc\t A", "S\tc\tA ", "S\tc\tA\t",
                "S\tc\tA\t*", "S\tc\tA\tLN:i:1", "S\tc\tAC GT", "S\tc\tAC,GT", "S\tc\t*", "S\tA\tc", "S\tc,d\tA");
    }

    private static void namesOfSegments() {
        bad("S\ta\tA\nS\ta\tA\n", 2);
        bad("S\ta\tA\nS\ta\tC\n", 2);
        bad("S\tabc\tA\nS\tabc\tA\n", 2);
        bad("S\ta\tA\nS\tb\tA\nH\nS\tc\tA\nS\ta\tA\n", 5);
        bad("S\ta\tA\nS\tb\tA\nS\tb\tA\n", 3);
        good("S\ta\tA\nS\taa\tA\nS\taaa\tA\nS\tab\tA\nS\tba\tA\nS\t0\tA\nS\t00\tA\nS\ta0\tA\n", "8 0 0 16");
        good("S\ta\tA\nP\tb\ta+\t*\nS\tb\tA\n", "2 0 1 4");
    }

    private static void formOfLinks() {
        good(TWO + "L\ta\t+\tb\t+\t0M\n", "2 1 0 4");
        badBehind(TWO, "L", "L\t", "L\ta", "L\ta\t+", "L\ta\t+\tb", "L\ta\t+\tb\t-", "L\ta\t+\tb\t-\t", "L\ta\t+\tb\t-\t0",
                "L\ta\t+\tb\t-\tM", "L\ta\t+\tb\t-\t*", "L\ta\t+\tb\t-\t0m", "L\ta\t+\tb\t-\t1M", "L\ta\t+\tb\t-\t00M",
                "L\ta\t+\tb\t-\t0M\t", "L\ta\t+\tb\t-\t0M ", "L\ta\t+\tb\t-\t0MM", "L\ta\t+\tb\t-\tM0", "L\ta\t+\tb\t-\t 0M",
                "L\ta+\tb-\t0M", "L\ta+\tb\t-\t0M", "L\ta\t+\tb-\t0M", "La\t+\tb\t-\t0M", "L a\t+\tb\t-\t0M",
                "L\ta +\tb\t-\t0M", "L\ta\t+ b\t-\t0M", "L\ta\t+\tb -\t0M", "L\ta\t+\tb\t- 0M", "L\ta\t+\tb\t-0M",
                "L\t\ta\t+\tb\t-\t0M", "L\ta\t\t+\tb\t-\t0M", "LL\ta\t+\tb\t-\t0M", "L\ta\tb\t+\t-\t0M", "L\t+\ta\t-\tb\t0M");
    }

    private static void turnsOfLinks() {
        for (String turn : new String[] {"+", "-"}) {
            good(TWO + "L\ta\t" + turn + "\tb\t+\t0M\n", "2 1 0 4");
            good(TWO + "L\ta\t+\tb\t" + turn + "\t0M\n", "2 1 0 4");
        }
        for (String turn : new String[] {"", "*", "/", ",", ".", "++", "--", "+-", ">", "<", "0", "a", " "}) {
            badBehind(TWO, "L\ta\t" + turn + "\tb\t+\t0M", "L\ta\t+\tb\t" + turn + "\t0M");
        }
    }

    private static void segmentsOfLinks() {
        badBehind(TWO, "L\tc\t+\ta\t+\t0M", "L\ta\t+\tc\t+\t0M", "L\tc\t+\tc\t+\t0M", "L\taa\t+\tb\t+\t0M", "L\ta\t+\tbb\t+\t0M",
                "L\tA\t+\tb\t+\t0M", "L\ta\t+\tab\t+\t0M");
        bad("L\ta\t+\ta\t+\t0M\n", 1);
        bad("L\ta\t+\tb\t+\t0M\n" + TWO, 1);
        bad("S\ta\tA\nL\ta\t+\tb\t+\t0M\nS\tb\tC\n", 2);
        bad("S\tb\tA\nL\ta\t+\tb\t+\t0M\nS\ta\tC\n", 2);
        bad("S\ta\tA\nP\tp\ta+\t*\nL\ta\t+\tp\t+\t0M\n", 3);
        good("S\ta\tA\nL\ta\t+\ta\t-\t0M\nS\tb\tC\nL\tb\t+\ta\t+\t0M\n", "2 2 0 4");
    }

    private static void sameLink() {
        bad(LINKED + "L\ta\t+\tb\t+\t0M\n", 4);
        bad(LINKED + "H\nL\ta\t-\tb\t+\t0M\nL\ta\t+\tb\t+\t0M\n", 6);
        bad(TWO + "L\ta\t-\tb\t+\t0M\nL\ta\t-\tb\t+\t0M\n", 4);
        bad(TWO + "L\tb\t-\ta\t-\t0M\nL\tb\t-\ta\t-\t0M\n", 4);
    }

    private static void sameLinkTurned() {
        bad(LINKED + "L\tb\t-\ta\t-\t0M\n", 4);
        bad(TWO + "L\tb\t-\ta\t-\t0M\nL\ta\t+\tb\t+\t0M\n", 4);
        bad(TWO + "L\ta\t+\tb\t-\t0M\nL\tb\t+\ta\t-\t0M\n", 4);
        bad(TWO + "L\ta\t-\tb\t+\t0M\nH\nL\tb\t-\ta\t+\t0M\n", 5);
        bad(TWO + "L\ta\t-\tb\t-\t0M\nL\tb\t+\ta\t+\t0M\n", 4);
    }

    private static void otherLinks() {
        good(LINKED + "L\tb\t+\ta\t+\t0M\n", "2 2 0 4");
        good(LINKED + "L\ta\t-\tb\t-\t0M\n", "2 2 0 4");
        good(LINKED + "L\ta\t+\tb\t-\t0M\n", "2 2 0 4");
        good(LINKED + "L\ta\t-\tb\t+\t0M\n", "2 2 0 4");
        good(LINKED + "L\tb\t+\ta\t-\t0M\n", "2 2 0 4");
        good(LINKED + "L\tb\t-\ta\t+\t0M\n", "2 2 0 4");
    }

    private static void linksToItself() {
        good("S\ta\tA\nL\ta\t+\ta\t-\t0M\nL\ta\t-\ta\t+\t0M\nL\ta\t+\ta\t+\t0M\n", "1 3 0 2");
        good("S\ta\tA\nL\ta\t-\ta\t-\t0M\n", "1 1 0 2");
        bad("S\ta\tA\nL\ta\t+\ta\t+\t0M\nL\ta\t+\ta\t+\t0M\n", 3);
        bad("S\ta\tA\nL\ta\t+\ta\t+\t0M\nL\ta\t-\ta\t-\t0M\n", 3);
        bad("S\ta\tA\nL\ta\t-\ta\t-\t0M\nL\ta\t+\ta\t+\t0M\n", 3);
        bad("S\ta\tA\nL\ta\t+\ta\t-\t0M\nL\ta\t+\ta\t-\t0M\n", 3);
        bad("S\ta\tA\nL\ta\t-\ta\t+\t0M\nL\ta\t-\ta\t+\t0M\n", 3);
    }

    private static void formOfPaths() {
        good(LINKED + "P\tp\ta+,b+\t*\n", "2 1 1 4");
        badBehind(LINKED, "P", "P\t", "P\tp", "P\tp\t", "P\tp\ta+", "P\tp\ta+\t", "P\tp\t\t*", "P\tp\t*", "P\t\ta+\t*", "P\ta+\t*",
                "Pp\ta+\t*", "P p\ta+\t*", "P\tp a+\t*", "P\tp\ta+ *", "P\tp\ta+*", "P\tp\ta+\t**", "P\tp\ta+\t*\t", "P\tp\ta+\t* ",
                "P\tp\ta+\t0M", "P\tp\ta+\t*,*", "P\t\tp\ta+\t*", "P\tp\t\ta+\t*", "P\tp\ta+\t\t*", "PP\tp\ta+\t*", "P\tP\ta+\t*",
                "P\tp+\ta+\t*", "P\tp,q\ta+\t*");
        // The step might go on with the path before.
        badBehind(Calls.LOOP, "P\tabcx+\t*", "P\tabcdx+\t*", "P\t\tx+\t*", "Px+\t*", "P\tx+\t*");
    }

    private static void formOfSteps() {
        good(LINKED + "P\tp\tb-\t*\n", "2 1 1 4");
        good(LINKED + "P\tp\tb-,a-\t*\n", "2 1 1 4");
        badBehind(LINKED, "P\tp\ta\t*", "P\tp\t+\t*", "P\tp\t+a\t*", "P\tp\ta+,\t*", "P\tp\t,a+\t*", "P\tp\t,\t*", "P\tp\ta+,,b+\t*",
                "P\tp\ta+b+\t*", "P\tp\ta+;b+\t*", "P\tp\ta+, b+\t*", "P\tp\ta+ ,b+\t*", "P\tp\ta+\tb+\t*", "P\tp\ta,b\t*", "P\tp\ta+,b\t*",
                "P\tp\ta,b+\t*", "P\tp\ta++\t*", "P\tp\ta+-\t*", "P\tp\ta*\t*", "P\tp\ta>\t*", "P\tp\ta\t+\t*", "P\tp\t>a>b\t*", "P\tp\ta +\t*");
    }

    private static void segmentsOfSteps() {
        badBehind(LINKED, "P\tp\tc+\t*", "P\tp\ta+,c+\t*", "P\tp\tc+,a+\t*", "P\tp\taa+\t*", "P\tp\tA+\t*", "P\tp\tp+\t*");
        bad("P\tp\ta+\t*\nS\ta\tA\n", 1);
        bad("S\ta\tA\nP\tp\tb-\t*\nS\tb\tA\n", 2);
        bad("S\ta\tA\nP\tp\ta+\t*\nP\tq\tp+\t*\n", 3);
    }

    private static void namesOfPaths() {
        bad("S\ta\tA\nP\tp\ta+\t*\nP\tp\ta+\t*\n", 3);
        bad("S\ta\tA\nP\tp\ta+\t*\nP\tp\ta-\t*\n", 3);
        bad("S\ta\tA\nP\tp\ta+\t*\nP\tq\ta+\t*\nH\nP\tp\ta-\t*\n", 5);
        bad("S\ta\tA\nP\tp\ta+\t*\nP\tqrs\ta+\t*\nP\tqrs\ta-\t*\n", 4);
        // The step might go on with the path before.
        badBehind(Calls.LOOP, "P\tq\tx+\t*", "P\tq\tx+,x+\t*");
        good(Calls.LOOP + "P\tr\tx+\t*\n", "1 1 2 2");
        good("S\ta\tA\nP\tp\ta+\t*\nP\tpp\ta+\t*\nP\tppp\ta+\t*\nP\t0\ta+\t*\n", "1 0 4 2");
        good("S\ta\tA\nP\ta\ta+\t*\n", "1 0 1 2");
    }

    private static void linksOfSteps() {
        good(LINKED + "P\tp\ta+,b+\t*\n", "2 1 1 4");
        good(LINKED + "P\tp\tb-,a-\t*\n", "2 1 1 4");
        badBehind(LINKED, "P\tp\tb+,a+\t*", "P\tp\ta-,b-\t*", "P\tp\ta+,b-\t*", "P\tp\ta-,b+\t*", "P\tp\tb-,a+\t*", "P\tp\tb+,a-\t*",
                "P\tp\ta+,a+\t*", "P\tp\ta+,a-\t*", "P\tp\tb-,b-\t*", "P\tp\ta-,a+\t*");
        good(TWO + "L\ta\t+\tb\t-\t0M\nP\tp\ta+,b-\t*\nP\tq\tb+,a-\t*\n", "2 1 2 4");
        good(TWO + "L\ta\t+\ta\t-\t0M\nP\tp\ta+,a-\t*\n", "2 1 1 4");
        bad(TWO + "L\ta\t+\ta\t-\t0M\nP\tp\ta-,a+\t*\n", 4);
        good(TWO + "L\ta\t+\ta\t+\t0M\nP\tp\ta+,a+\t*\nP\tq\ta-,a-,a-\t*\n", "2 1 2 4");
    }

    private static void anyTwoSteps() {
        String ring = LINKED + "L\tb\t+\ta\t+\t0M\n";
        good(ring + "P\tp\ta+,b+,a+,b+,a+,b+,a+,b+\t*\n", "2 2 1 4");
        bad(ring + "P\tp\ta+,a+,b+,a+,b+,a+,b+,a+\t*\n", 5);
        bad(ring + "P\tp\ta+,b+,a+,b+,b+,a+,b+,a+\t*\n", 5);
        bad(ring + "P\tp\ta+,b+,a+,b+,a+,b+,a+,a+\t*\n", 5);
        bad(LINKED + "P\tp\ta+,b+,a+\t*\n", 4);
    }

    private static void linksOfLinesBefore() {
        bad(TWO + "P\tp\ta+,b+\t*\n", 3);
        bad(TWO + "P\tp\ta+,b+\t*\nL\ta\t+\tb\t+\t0M\n", 3);
        good(TWO + "P\tq\ta+\t*\nL\ta\t+\tb\t+\t0M\nP\tp\ta+,b+\t*\n", "2 1 2 4");
    }

    private static void oneStep() {
        good("S\ta\tA\nP\tp\ta+\t*\nP\tq\ta-\t*\n", "1 0 2 2");
    }
}
