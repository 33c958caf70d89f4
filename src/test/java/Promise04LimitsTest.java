/** Promise 4: how many segments, bases, links, paths, steps and characters a good text may have. */
public final class Promise04LimitsTest {
    private static final Checks checks = new Checks("Promise 4, limits");

    public static void main(String[] args) {
        checks.test("at most 8 SEGMENTS", Promise04LimitsTest::segments);
        checks.test("1 .. 4 BASES", Promise04LimitsTest::bases);
        checks.test("the characters A, C, G, T", Promise04LimitsTest::charactersOfBases);
        checks.test("at most 12 LINKS", Promise04LimitsTest::links);
        checks.test("at most 4 PATHS", Promise04LimitsTest::paths);
        checks.test("1 .. 8 STEPS", Promise04LimitsTest::steps);
        checks.test("1 .. 8 STEPS in each path, not in all", Promise04LimitsTest::stepsOfEachPath);
        checks.test("A NAME of a segment has 1 .. 3 characters", Promise04LimitsTest::lengthsOfSegmentNames);
        checks.test("A NAME of a path has 1 .. 3 characters", Promise04LimitsTest::lengthsOfPathNames);
        checks.test("The names in a link have 1 .. 3 characters", Promise04LimitsTest::lengthsOfNamesInLinks);
        checks.test("The names in steps have 1 .. 3 characters", Promise04LimitsTest::lengthsOfNamesInSteps);
        checks.test("each a letter 'a' .. 'z' or a digit", Promise04LimitsTest::charactersOfNames);
        checks.test("THE TEXT is a list of at most 400 characters", Promise04LimitsTest::wholeText);
        checks.test("All that a graph may have, at once", Promise04LimitsTest::wholeGraph);
        checks.test("What a former text had does not count", Promise04LimitsTest::wholeGraphAgain);
        checks.end();
    }

    private static void good(String text, String sizes) {
        WalkAligner x = Calls.typed(text);
        checks.same("load() of " + Calls.shown(text), x.load(), 0);
        checks.same("sizes of " + Calls.shown(text), Calls.sizes(x), sizes);
    }

    private static void bad(String text, int line) {
        checks.same("load() of " + Calls.shown(text), Calls.typed(text).load(), -line);
    }

    private static String segments(int count) {
        StringBuilder all = new StringBuilder();
        for (int k = 0; k < count; k++) {
            all.append("S\t").append(k).append("\tAC\n");
        }
        return all.toString();
    }

    private static void segments() {
        good(segments(0), "0 0 0 0");
        good(segments(1), "1 0 0 4");
        good(segments(8), "8 0 0 32");
        bad(segments(9), 9);
        bad(segments(10), 9);
        good("H\n" + segments(8) + "H\n", "8 0 0 32");
        bad("H\n" + segments(8) + "H\nS\t8\tA\n", 11);
    }

    private static void bases() {
        bad("S\ta\t\n", 1);
        good("S\ta\tT\n", "1 0 0 2");
        good("S\ta\tTG\n", "1 0 0 4");
        good("S\ta\tTGC\n", "1 0 0 6");
        good("S\ta\tTGCA\n", "1 0 0 8");
        bad("S\ta\tTGCAT\n", 1);
        bad("S\ta\t" + "A".repeat(256 + 4) + "\n", 1);
    }

    private static void charactersOfBases() {
        for (int code = 32; code <= 126; code++) {
            boolean isBase = "ACGT".indexOf(code) >= 0;
            for (String bases : new String[] {"#", "#A", "A#", "ACG#"}) {
                String text = "S\ta\t" + bases.replace('#', (char) code) + "\n";
                checks.same("load() of " + Calls.shown(text), Calls.typed(text).load(), isBase ? 0 : -1);
            }
        }
    }

    /** Links among a, b and c, none of them another one or another one turned about. */
    private static String links(int count) {
        String[] sides = {"a\t+", "a\t-", "b\t+", "b\t-", "c\t+", "c\t-"};
        StringBuilder all = new StringBuilder("S\ta\tA\nS\tb\tC\nS\tc\tG\n");
        int made = 0;
        for (int from = 0; from < 6; from++) {
            for (int to = 0; to < 6 && made < count; to++) {
                boolean firstOfTwins = from * 6 + to <= (to ^ 1) * 6 + (from ^ 1);
                if (firstOfTwins) {
                    all.append("L\t").append(sides[from]).append('\t').append(sides[to]).append("\t0M\n");
                    made++;
                }
            }
        }
        return all.toString();
    }

    private static void links() {
        good(links(0), "3 0 0 6");
        good(links(1), "3 1 0 6");
        good(links(11), "3 11 0 6");
        good(links(12), "3 12 0 6");
        bad(links(13), 3 + 13);
        bad(links(14), 3 + 13);
        good(links(12) + "H\nP\tp\ta+\t*\n", "3 12 1 6");
    }

    private static String paths(int count) {
        StringBuilder all = new StringBuilder("S\ta\tA\n");
        for (int k = 0; k < count; k++) {
            all.append("P\t").append(k).append("\ta+\t*\n");
        }
        return all.toString();
    }

    private static void paths() {
        good(paths(0), "1 0 0 2");
        good(paths(1), "1 0 1 2");
        good(paths(4), "1 0 4 2");
        bad(paths(5), 1 + 5);
        bad(paths(6), 1 + 5);
        good(paths(4) + "H\nS\tb\tA\n", "2 0 4 4");
        // The step of the fifth path might go on with the fourth one.
        String loop = "S\ta\tA\nL\ta\t+\ta\t+\t0M\n";
        bad(loop + path("p", 1) + path("q", 1) + path("r", 1) + path("s", 1) + path("t", 1), 7);
    }

    private static String path(String name, int steps) {
        return "P\t" + name + "\t" + (steps == 0 ? "" : "a+" + ",a+".repeat(steps - 1)) + "\t*\n";
    }

    private static void steps() {
        String loop = "S\ta\tA\nL\ta\t+\ta\t+\t0M\n";
        bad(loop + path("p", 0), 3);
        good(loop + path("p", 1), "1 1 1 2");
        good(loop + path("p", 2), "1 1 1 2");
        good(loop + path("p", 7), "1 1 1 2");
        good(loop + path("p", 8), "1 1 1 2");
        bad(loop + path("p", 9), 3);
        bad(loop + path("p", 10), 3);
        bad(loop + path("p", 100), 3);
        bad(loop + path("p", 8).replace("\t*", ",\t*"), 3);
    }

    private static void stepsOfEachPath() {
        String loop = "S\ta\tA\nL\ta\t+\ta\t+\t0M\n";
        String four = path("p", 8) + path("q", 8) + path("r", 8) + path("s", 8);
        good(loop + four, "1 1 4 2");
        bad(loop + path("p", 8) + path("q", 1) + path("r", 8) + path("s", 9), 6);
        bad(loop + path("p", 1) + path("q", 9), 4);
    }

    private static void lengthsOfSegmentNames() {
        bad("S\t\tA\n", 1);
        good("S\ta\tA\n", "1 0 0 2");
        good("S\tab\tA\n", "1 0 0 2");
        good("S\tabc\tA\n", "1 0 0 2");
        bad("S\tabcd\tA\n", 1);
        bad("S\t" + "a".repeat(256 + 1) + "\tA\n", 1);
    }

    private static void lengthsOfPathNames() {
        bad("S\ta\tA\nP\t\ta+\t*\n", 2);
        good("S\ta\tA\nP\tp\ta+\t*\n", "1 0 1 2");
        good("S\ta\tA\nP\tpq\ta+\t*\n", "1 0 1 2");
        good("S\ta\tA\nP\tpqr\ta+\t*\n", "1 0 1 2");
        bad("S\ta\tA\nP\tpqrs\ta+\t*\n", 2);
    }

    private static void lengthsOfNamesInLinks() {
        String three = "S\ta\tA\nS\tab\tA\nS\tabc\tA\n";
        for (String name : new String[] {"a", "ab", "abc"}) {
            good(three + "L\t" + name + "\t+\ta\t-\t0M\n", "3 1 0 6");
            good(three + "L\ta\t-\t" + name + "\t+\t0M\n", "3 1 0 6");
        }
        for (String name : new String[] {"", "abcd", "abca"}) {
            bad(three + "L\t" + name + "\t+\ta\t-\t0M\n", 4);
            bad(three + "L\ta\t-\t" + name + "\t+\t0M\n", 4);
        }
    }

    private static void lengthsOfNamesInSteps() {
        String three = "S\ta\tA\nS\tab\tA\nS\tabc\tA\n";
        for (String name : new String[] {"a", "ab", "abc"}) {
            good(three + "P\tp\t" + name + "-\t*\n", "3 0 1 6");
        }
        for (String name : new String[] {"", "abcd", "abca"}) {
            bad(three + "P\tp\t" + name + "-\t*\n", 4);
        }
    }

    private static void charactersOfNames() {
        for (int code = 32; code <= 126; code++) {
            boolean isOfName = (code >= 'a' && code <= 'z') || (code >= '0' && code <= '9');
            for (String form : new String[] {"#", "#b", "b#", "ab#"}) {
                String name = form.replace('#', (char) code);
                String segment = "S\t" + name + "\tA\n";
                checks.same("load() of " + Calls.shown(segment), Calls.typed(segment).load(), isOfName ? 0 : -1);
                String path = "S\ta\tA\nP\t" + name + "\ta+\t*\n";
                checks.same("load() of " + Calls.shown(path), Calls.typed(path).load(), isOfName ? 0 : -2);
            }
        }
    }

    private static void wholeText() {
        String segment = "S\tabc\tACGT\n";
        good(segment + "H" + "x".repeat(400 - segment.length() - 2) + "\n", "1 0 0 8");
        good("H" + "x".repeat(400 - segment.length() - 2) + "\n" + segment, "1 0 0 8");
        good("H" + "x".repeat(398) + "\n", "0 0 0 0");
        bad("H" + "x".repeat(400 - segment.length() - 1) + "\n" + segment.replace("\n", ""), 2);
        bad("H" + "x".repeat(397) + "\n?", 2);
        bad("H" + "x".repeat(397) + "\n\n", 2);
    }

    private static void wholeGraph() {
        good(Calls.FULL, "8 12 4 64");
        bad(Calls.FULL + "S\ti\tA\n", 25);
        bad(Calls.FULL + "L\ta\t-\ta\t+\t0M\n", 25);
        bad(Calls.FULL + "P\tt\ta+\t*\n", 25);
        good(Calls.FULL + "H\n", "8 12 4 64");
    }

    private static void wholeGraphAgain() {
        WalkAligner x = Calls.typed(Calls.FULL);
        for (int k = 1; k <= 100; k++) {
            checks.same("load() number " + k, x.load(), 0);
        }
        checks.same("sizes", Calls.sizes(x), "8 12 4 64");
        Calls.type(x, "S\ti\tA\n");
        checks.same("load() of a segment more", x.load(), -25);
        checks.same("load() of a segment more, again", x.load(), -25);
        checks.same("sizes behind it", Calls.sizes(x), "8 12 4 64");
    }
}
