/** Promise 14: lies. */
public final class Promise14LiesTest {
    private static final Checks checks = new Checks("Promise 14");
    private static final String RING = "S\ta\tAA\nS\tb\tCC\nL\ta\t+\tb\t+\t0M\nL\tb\t+\ta\t+\t0M\n"
            + "P\tp\ta+,b+\t*\nP\tq\tb+,a+\t*\nP\tr\tb+,a+,b+\t*\nP\ts\ta-\t*\n";
    private static final String EIGHT = "S\tx\tA\nL\tx\t+\tx\t+\t0M\n" + "P\tp\tx+\t*\nP\tq\tx-,x-\t*\nP\tr\tx+,x+,x+\t*\n"
            + "P\ts\tx+,x+,x+,x+,x+,x+,x+,x+\t*\n";

    public static void main(String[] args) {
        checks.test("steps of a path in this order: all of them", Promise14LiesTest::wholePath);
        checks.test("steps of a path in this order: the first, inner and last ones", Promise14LiesTest::partOfAPath);
        checks.test("steps of a path in this order: not in another one", Promise14LiesTest::inThisOrder);
        checks.test("steps that stand side by side", Promise14LiesTest::sideBySide);
        checks.test("steps of a path, not of two", Promise14LiesTest::notOfTwoPaths);
        checks.test("or turned about in the opposite order", Promise14LiesTest::turnedAbout);
        checks.test("turned about and in the opposite order, not one of both", Promise14LiesTest::notOneOfBoth);
        checks.test("the sides that the walk goes through: one alone", Promise14LiesTest::oneSide);
        checks.test("the sides that the walk goes through: by deletes, too", Promise14LiesTest::deletedSide);
        checks.test("more sides than steps", Promise14LiesTest::moreSidesThanSteps);
        checks.test("as many sides as 8 steps, and one more", Promise14LiesTest::asManySidesAsSteps);
        checks.test("False without a result", Promise14LiesTest::withoutAResult);
        checks.test("False when there is no such path: too small, too large", Promise14LiesTest::noSuchPath);
        checks.test("False when there is no such path: none at all", Promise14LiesTest::noPathAtAll);
        checks.test("False when there is no such path: of a former graph", Promise14LiesTest::formerPath);
        checks.test("going on to a next side, even the same", Promise14LiesTest::sameSideAgain);
        checks.test("going on to the same side turned about", Promise14LiesTest::sameSideTurned);
        checks.end();
    }

    private static void lyings(String text, String read, String due) {
        checks.same(read + " on " + Calls.shown(text), Calls.lyings(Calls.aligned(text, read)), due);
    }

    private static void wholePath() {
        lyings(Calls.CHAIN, "ACGTCC", "1");
        lyings(Calls.CHAIN, "GTC", "1");
        lyings(RING, "AACC", "1010");
    }

    private static void partOfAPath() {
        lyings(Calls.CHAIN, "CGT", "1");
        lyings(Calls.CHAIN, "TCC", "1");
        lyings(Calls.CHAIN, "T", "1");
        lyings(RING, "CCAA", "0110");
        lyings(RING, "CCAACC", "0010");
        String row = "S\ta\tAA\nS\tb\tCC\nS\tc\tGA\nS\td\tTC\nL\ta\t+\tb\t+\t0M\nL\tb\t+\tc\t+\t0M\nL\tc\t+\td\t+\t0M\n"
                + "P\tp\ta+,b+,c+,d+\t*\n";
        lyings(row, "CCGA", "1");
        lyings(row, "TCGG", "1");
    }

    private static void inThisOrder() {
        lyings(RING, "CCAA", "0110");
        lyings(RING, "AACCAA", "0000");
    }

    private static void sideBySide() {
        // The walk goes from a to c, between which the first path has a step more.
        String skip = "S\ta\tAA\nS\tb\tCC\nS\tc\tGA\nL\ta\t+\tb\t+\t0M\nL\tb\t+\tc\t+\t0M\nL\ta\t+\tc\t+\t0M\n"
                + "P\tp\ta+,b+,c+\t*\nP\tq\ta+,c+\t*\n";
        lyings(skip, "AAGA", "01");
        lyings(skip, "TCTT", "01");
        lyings(skip, "AACCGA", "10");
    }

    private static void notOfTwoPaths() {
        String two = "S\ta\tAA\nS\tb\tCC\nL\ta\t+\tb\t+\t0M\nL\ta\t+\ta\t+\t0M\n";
        lyings(two + "P\tp\ta+\t*\nP\tq\tb+\t*\n", "AACC", "00");
        lyings(two + "P\tp\ta+,a+,a+,a+,a+,a+,a+,a+\t*\nP\tq\tb+\t*\n", "AACC", "00");
        lyings(two + "P\tp\ta+,a+,a+,a+,a+,a+,a+,a+\t*\nP\tq\tb+\t*\n", "GGTT", "00");
        lyings(two + "P\tp\ta+,a+\t*\nP\tq\ta+,b+\t*\n", "AACC", "01");
    }

    private static void turnedAbout() {
        lyings(Calls.CHAIN, "GGACGT", "1");
        lyings(Calls.CHAIN, "GACG", "1");
        lyings(Calls.CHAIN, "GGA", "1");
        lyings(RING, "GGTT", "1010");
        lyings(RING, "GGTTGG", "0010");
        lyings("S\ta\tAA\nS\tb\tCC\nL\ta\t+\tb\t+\t0M\nP\tp\tb-,a-\t*\n", "AACC", "1");
        lyings("S\ta\tAA\nS\tb\tCC\nL\ta\t+\tb\t+\t0M\nP\tp\tb-,a-\t*\n", "GGTT", "1");
    }

    private static void notOneOfBoth() {
        // Every side of a and b may follow every other one of the other segment.
        String all = "S\ta\tAA\nS\tb\tCC\nL\ta\t+\tb\t+\t0M\nL\tb\t+\ta\t+\t0M\nL\ta\t+\tb\t-\t0M\nL\ta\t-\tb\t+\t0M\n"
                + "P\tp\ta+,b+\t*\n";
        lyings(all, "AACC", "1");
        lyings(all, "GGTT", "1");
        lyings(all, "CCAA", "0");
        lyings(all, "TTGG", "0");
        lyings(all, "AAGG", "0");
        lyings(all, "TTCC", "0");
    }

    private static void oneSide() {
        lyings(RING, "AA", "1111");
        lyings(RING, "GG", "1110");
        lyings(RING, "", "1111");
        lyings("S\ta\tAA\nS\tb\tCC\nP\tp\ta+\t*\nP\tq\ta-\t*\nP\tr\tb+\t*\n", "A", "110");
        lyings("S\ta\tAA\nS\tb\tCC\nP\tp\ta+\t*\nP\tq\ta-\t*\nP\tr\tb+\t*\n", "G", "001");
    }

    private static void deletedSide() {
        // The middle segment's only place is deleted.
        String bridge = "S\ta\tACCA\nS\tb\tG\nS\tc\tCAAC\nL\ta\t+\tb\t+\t0M\nL\tb\t+\tc\t+\t0M\nP\tp\ta+,b+,c+\t*\nP\tq\ta+\t*\n"
                + "P\tr\ta+,b+\t*\n";
        WalkAligner x = Calls.aligned(bridge, "ACCACAAC");
        checks.same("edits", Calls.edits(x), "====D====");
        checks.same("lyings", Calls.lyings(x), "100");
    }

    private static void moreSidesThanSteps() {
        lyings(Calls.LOOP, "AAA", "1");
        lyings(Calls.LOOP, "AAAA", "0");
        lyings(Calls.LOOP, "TTT", "1");
        lyings(Calls.LOOP, "TTTT", "0");
        lyings(Calls.LOOP, "AAAAAAAAAAAA", "0");
    }

    private static void asManySidesAsSteps() {
        lyings(EIGHT, "A", "1111");
        lyings(EIGHT, "AA", "0111");
        lyings(EIGHT, "AAA", "0011");
        lyings(EIGHT, "AAAAAAAA", "0001");
        lyings(EIGHT, "AAAAAAAAA", "0000");
        lyings(EIGHT, "TTTTTTTT", "0001");
        lyings(EIGHT, "TTTTTTTTT", "0000");
        lyings(EIGHT, "TTTTTTTTTTTT", "0000");
        lyings(Calls.FULL, "GGCATCGA", "1100");
        lyings(Calls.FULL, "TCGAACGTAAAA", "0001");
    }

    private static void withoutAResult() {
        checks.no("a new object", new WalkAligner().lies(0));
        WalkAligner x = Calls.ready(Calls.CHAIN, "GTC");
        checks.no("before align()", x.lies(0));
        x.align();
        checks.yes("behind align()", x.lies(0));
        x.load();
        checks.no("behind load()", x.lies(0));
        for (int path : Calls.far()) {
            checks.no("lies(" + path + ")", x.lies(path));
        }
    }

    private static void noSuchPath() {
        WalkAligner x = Calls.aligned(Calls.CHAIN, "GTC");
        checks.no("lies(-1)", x.lies(-1));
        for (int path = 1; path <= 8; path++) {
            checks.no("lies(" + path + ")", x.lies(path));
        }
        for (int path : Calls.far()) {
            checks.no("lies(" + path + ")", x.lies(path));
        }
        WalkAligner y = Calls.aligned(EIGHT, "A");
        checks.yes("lies(3)", y.lies(3));
        checks.no("lies(4)", y.lies(4));
        checks.no("lies(-1)", y.lies(-1));
    }

    private static void noPathAtAll() {
        WalkAligner x = Calls.aligned("S\ta\tA\n", "A");
        checks.no("lies(0)", x.lies(0));
        checks.no("lies(-1)", x.lies(-1));
    }

    private static void formerPath() {
        WalkAligner x = Calls.aligned(EIGHT, "A");
        checks.yes("lies(3)", x.lies(3));
        Calls.load(x, "S\tx\tA\nP\tp\tx+\t*\n");
        x.align();
        checks.yes("lies(0)", x.lies(0));
        checks.no("lies(1)", x.lies(1));
        checks.no("lies(3)", x.lies(3));
        Calls.load(x, "S\tx\tA\n");
        x.align();
        checks.no("lies(0) without paths", x.lies(0));
    }

    private static void sameSideAgain() {
        String wide = "S\tx\tAC\nL\tx\t+\tx\t+\t0M\nP\tp\tx+\t*\nP\tq\tx-,x-\t*\n";
        lyings(wide, "AC", "11");
        lyings(wide, "CA", "01");
        lyings(wide, "ACAC", "01");
        lyings(wide, "CACA", "00");
        lyings(wide, "GTGT", "01");
        lyings(Calls.LOOP, "AA", "1");
        lyings("S\tx\tA\nL\tx\t+\tx\t+\t0M\nP\tp\tx+\t*\n", "AA", "0");
        lyings("S\tx\tA\nL\tx\t+\tx\t+\t0M\nP\tp\tx+\t*\n", "A", "1");
    }

    private static void sameSideTurned() {
        String back = "S\tx\tAC\nL\tx\t+\tx\t-\t0M\nP\tp\tx+,x-\t*\nP\tq\tx+\t*\n";
        lyings(back, "CG", "10");
        lyings(back, "ACGT", "10");
        lyings(back, "AC", "11");
        lyings(back, "GT", "11");
    }
}
