/** Promise 10: what align answers, and what it changes. The rules that find the result have tests of their own. */
public final class Promise10AlignTest {
    private static final Checks checks = new Checks("Promise 10, align");

    public static void main(String[] args) {
        checks.test("the cost of the result: edits that are no match", Promise10AlignTest::costs);
        checks.test("the cost of the result, as great as may be", Promise10AlignTest::greatestCost);
        checks.test("an empty read on a walk, one place at least", Promise10AlignTest::emptyRead);
        checks.test("a read longer than every walk", Promise10AlignTest::longerThanEveryWalk);
        checks.test("a walk longer than the read", Promise10AlignTest::walkLongerThanTheRead);
        checks.test("a read of 12 bases round a circle", Promise10AlignTest::roundACircle);
        checks.test("as many segments and links as a graph may have", Promise10AlignTest::wholeGraph);
        checks.test("NONE when the graph has no segments", Promise10AlignTest::noSegments);
        checks.test("NONE, changing nothing", Promise10AlignTest::noneChangesNothing);
        checks.test("the latest result", Promise10AlignTest::latestResult);
        checks.test("the latest result since load() last answered 0", Promise10AlignTest::latestResultSinceLoad);
        checks.test("Aligned again, the result is the same", Promise10AlignTest::alignedAgain);
        checks.test("The text, the graph, the read and the record stay", Promise10AlignTest::leavesTheRest);
        checks.end();
    }

    private static void result(String text, String read, int cost, String walk, String edits) {
        WalkAligner x = Calls.ready(text, read);
        checks.same("cost of " + read + " on " + Calls.shown(text), x.align(), cost);
        checks.same("walk of " + read + " on " + Calls.shown(text), Calls.walk(x), walk);
        checks.same("edits of " + read + " on " + Calls.shown(text), Calls.edits(x), edits);
    }

    private static void costs() {
        result(Calls.CHAIN, "CGTCC", 0, "1 2 6 10 11", "=====");
        result(Calls.CHAIN, "GGACG", 0, "8 9 7 3 4", "=====");
        result("S\ta\tACGT\n", "ACTT", 1, "0 1 2 3", "==X=");
        result("S\ta\tAACT\n", "AAGCT", 1, "0 1 2 3", "==I==");
        result("S\ta\tAACT\nS\tb\tGGTG\nL\ta\t+\tb\t+\t0M\n", "AACGGTG", 1, "0 1 2 3 8 9 10 11", "===D====");
        result("S\ta\tAACC\nS\tb\tAGGC\nL\ta\t+\tb\t+\t0M\n", "AATCTGGC", 2, "0 1 2 3 8 9 10 11", "==X=X===");
    }

    private static void greatestCost() {
        result("S\ta\tA\n", "CCCCCCCCCCCC", 12, "0", "IIIIIIIIIIIX");
        result("S\ta\tA\n", "C", 1, "0", "X");
    }

    private static void emptyRead() {
        result("S\ta\tA\n", "", 1, "0", "D");
        result(Calls.CHAIN, "", 1, "0", "D");
        result(Calls.LOOP, "", 1, "0", "D");
        result(Calls.FULL, "", 1, "0", "D");
    }

    private static void longerThanEveryWalk() {
        result("S\ta\tAC\n", "AACCAACCAACC", 10, "0 1", "IIIIIIIII=I=");
        result("S\ta\tAC\n", "AAC", 1, "0 1", "I==");
    }

    private static void walkLongerThanTheRead() {
        result("S\ta\tACGT\nL\ta\t+\ta\t+\t0M\n", "ACGACGACGACG", 3,
                "0 1 2 3 0 1 2 3 0 1 2 3 0 1 2", "===D===D===D===");
        String ring = "S\ta\tTTTT\nS\tb\tCCC\nS\tc\tCCGC\nS\td\tTATA\nL\ta\t+\tb\t+\t0M\nL\tb\t+\tc\t+\t0M\n"
                + "L\tc\t+\td\t+\t0M\nL\td\t+\ta\t+\t0M\n";
        result(ring, "ATTTTCGTAATT", 6, "25 0 1 2 3 8 9 10 14 15 16 17 22 23 24 25 0 1", "=====DDDD==D==D===");
    }

    private static void roundACircle() {
        result(Calls.LOOP, "AAAAAAAAAAAA", 0, "0 0 0 0 0 0 0 0 0 0 0 0", "============");
        result(Calls.LOOP, "TTTTTTTTTTTT", 0, "1 1 1 1 1 1 1 1 1 1 1 1", "============");
        result("S\ta\tA\nS\tb\tC\nL\ta\t+\tb\t+\t0M\nL\tb\t+\ta\t+\t0M\n", "CACACACACACA", 0,
                "2 0 2 0 2 0 2 0 2 0 2 0", "============");
    }

    private static void wholeGraph() {
        result(Calls.FULL, "TCGAACGTAAAA", 0, "56 57 58 59 0 1 2 3 8 9 10 11", "============");
        result(Calls.FULL, "GTGTACGT", 0, "24 25 26 27 4 5 6 7", "========");
    }

    private static void noSegments() {
        checks.same("a new object", new WalkAligner().align(), Calls.NONE);
        checks.same("a text of no lines", Calls.loaded("").align(), Calls.NONE);
        checks.same("a text of other lines", Calls.loaded("H\nH S\n").align(), Calls.NONE);
        WalkAligner x = Calls.ready(Calls.LOOP, "AA");
        checks.same("align()", x.align(), 0);
        x.clear();
        checks.same("align() before load()", x.align(), 0);
        checks.same("load()", x.load(), 0);
        checks.same("align() behind load()", x.align(), Calls.NONE);
        checks.same("a text that is not good", Calls.typed("S\ta\tA").align(), Calls.NONE);
    }

    private static void noneChangesNothing() {
        WalkAligner x = Calls.aligned(Calls.CHAIN, "CGTCC");
        x.tell();
        Calls.load(x, "H\n");
        checks.same("align()", x.align(), Calls.NONE);
        Calls.checkNoResult(checks, "behind NONE", x);
        checks.same("the record", Calls.record(x), ">a>b<c\t1\t0\t0\t5=");
        checks.same("the graph", Calls.sizes(x), "0 0 0 0");
        checks.yes("type", x.type('S'));
        checks.same("load() of the text and a line that is not ended", x.load(), -2);
        Calls.type(x, "\ta\tCGTC\n");
        checks.same("load() of the text and a line more", x.load(), 0);
        checks.same("the read, least(5, 3)", x.least(5, 3), 1);
        checks.same("the read, least(6, 3)", x.least(6, 3), Calls.BAD);
    }

    private static void latestResult() {
        WalkAligner x = Calls.aligned(Calls.CHAIN, "GTC");
        checks.same("first walk", Calls.walk(x), "2 6 10");
        Calls.read(x, "C");
        checks.same("align() of one base more", x.align(), 0);
        checks.same("second walk", Calls.walk(x), "2 6 10 11");
        x.drop();
        checks.same("align() of none", x.align(), 1);
        checks.same("third walk", Calls.walk(x), "0");
        checks.same("third edits", Calls.edits(x), "D");
        checks.same("third record", x.tell(), ">a\t0\t2\t1\t1D".length());
    }

    private static void latestResultSinceLoad() {
        WalkAligner x = Calls.aligned(Calls.LOOP, "AA");
        checks.yes("type", x.type('?'));
        checks.same("load()", x.load(), -4);
        checks.same("walk behind a text that is not good", Calls.walk(x), "0 0");
        Calls.load(x, "S\tx\tG\n");
        Calls.checkNoResult(checks, "behind a good text", x);
        checks.same("align()", x.align(), 2);
        checks.same("walk on the new graph", Calls.walk(x), "0");
        checks.same("edits on the new graph", Calls.edits(x), "IX");
    }

    private static void alignedAgain() {
        WalkAligner x = Calls.ready(Calls.CHAIN, "CGATC");
        int cost = x.align();
        String walk = Calls.walk(x);
        String edits = Calls.edits(x);
        checks.same("align() again", x.align(), cost);
        checks.same("walk again", Calls.walk(x), walk);
        checks.same("edits again", Calls.edits(x), edits);
    }

    private static void leavesTheRest() {
        WalkAligner x = Calls.aligned(Calls.CHAIN, "CGTCC");
        x.tell();
        x.drop();
        Calls.read(x, "GT");
        checks.same("align()", x.align(), 0);
        checks.same("the record", Calls.record(x), ">a>b<c\t1\t0\t0\t5=");
        checks.same("the graph", Calls.sizes(x), "3 2 1 12");
        checks.same("the read, least(2, 6)", x.least(2, 6), 0);
        checks.same("the read, least(3, 6)", x.least(3, 6), Calls.BAD);
        checks.same("load() of the text", x.load(), 0);
        checks.same("the text's graph", Calls.sizes(x), "3 2 1 12");
    }
}
