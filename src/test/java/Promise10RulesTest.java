/** Promise 10: the rules by which the result is found backwards, and their order. */
public final class Promise10RulesTest {
    private static final Checks checks = new Checks("Promise 10, rules");

    public static void main(String[] args) {
        checks.test("begin with the place v with the least E(i, v)", Promise10RulesTest::leastCostFirst);
        checks.test("of several the one with the least number", Promise10RulesTest::leastLastPlace);
        checks.test("1: v is the first place of the walk, a match", Promise10RulesTest::rule1Match);
        checks.test("1: v is the first place of the walk, a change", Promise10RulesTest::rule1Change);
        checks.test("1: and i - 1 inserts come before", Promise10RulesTest::rule1Inserts);
        checks.test("2: a match or change, and a place u before", Promise10RulesTest::rule2);
        checks.test("2: the u with the least number", Promise10RulesTest::rule2LeastPlace);
        checks.test("3: an insert; go on with i - 1 and v", Promise10RulesTest::rule3);
        checks.test("4: a delete, and a place u before", Promise10RulesTest::rule4);
        checks.test("4: the u with the least number", Promise10RulesTest::rule4LeastPlace);
        checks.test("5: otherwise a delete; v is the first place of the walk", Promise10RulesTest::rule5);
        checks.test("i > 0: no rule but 5 for an empty read", Promise10RulesTest::noBaseLeft);
        checks.test("the first of these that holds: 1 before 2", Promise10RulesTest::rule1Before2);
        checks.test("the first of these that holds: 1 before 3", Promise10RulesTest::rule1Before3);
        checks.test("the first of these that holds: 1 before 4", Promise10RulesTest::rule1Before4);
        checks.test("the first of these that holds: 2 before 3", Promise10RulesTest::rule2Before3);
        checks.test("the first of these that holds: 2 before 4", Promise10RulesTest::rule2Before4);
        checks.test("the first of these that holds: 3 before 4", Promise10RulesTest::rule3Before4);
        checks.end();
    }

    private static void result(String text, String read, int cost, String walk, String edits) {
        WalkAligner x = Calls.ready(text, read);
        checks.same("cost of " + read + " on " + Calls.shown(text), x.align(), cost);
        checks.same("walk of " + read + " on " + Calls.shown(text), Calls.walk(x), walk);
        checks.same("edits of " + read + " on " + Calls.shown(text), Calls.edits(x), edits);
    }

    private static void leastCostFirst() {
        // The first place has a cost of 1, the last one of all a cost of 0.
        result("S\ta\tAG\n", "T", 0, "3", "=");
        result("S\ta\tAA\nS\tb\tCC\nS\tc\tTG\n", "CA", 0, "10 11", "==");
    }

    private static void leastLastPlace() {
        result("S\ta\tG\n", "T", 1, "0", "X");
        result("S\ta\tA\nS\tb\tA\n", "T", 0, "1", "=");
        result("S\ta\tAAAA\n", "A", 0, "0", "=");
        result("S\ta\tC\nS\tb\tAT\nS\tc\tAT\n", "AT", 0, "2 3", "==");
        result("S\ta\tACA\n", "AG", 1, "0", "=I");
    }

    private static void rule1Match() {
        result("S\ta\tC\nS\tb\tA\nL\ta\t+\tb\t+\t0M\n", "A", 0, "2", "=");
        result("S\ta\tACG\n", "G", 0, "2", "=");
    }

    private static void rule1Change() {
        result("S\ta\tC\n", "T", 1, "0", "X");
        result("S\ta\tC\nL\ta\t+\ta\t+\t0M\n", "A", 1, "0", "X");
    }

    private static void rule1Inserts() {
        result("S\ta\tAC\n", "GGC", 2, "1", "II=");
        result("S\ta\tA\n", "CC", 2, "0", "IX");
        result("S\ta\tA\n", "CCCCCCCCCCCC", 12, "0", "IIIIIIIIIIIX");
        result("S\ta\tA\n", "CCCCCCCCCCCA", 11, "0", "IIIIIIIIIII=");
    }

    private static void rule2() {
        result("S\ta\tCA\n", "TG", 0, "2 3", "==");
        result("S\ta\tCCC\nS\tb\tAAA\nL\ta\t+\tb\t+\t0M\n", "CCTAA", 1, "0 1 2 6 7", "==X==");
    }

    private static void rule2LeastPlace() {
        // The order of the segments counts, and not the order of the links.
        String twins = "S\ta\tA\nS\tb\tA\nS\tc\tC\nL\tb\t+\tc\t+\t0M\nL\ta\t+\tc\t+\t0M\n";
        result(twins, "AC", 0, "0 4", "==");
        result(twins, "GT", 0, "5 1", "==");
        // Both of the two places that lie before the last one could be the changed one.
        result("S\ta\tC\nL\ta\t-\ta\t+\t0M\nL\ta\t+\ta\t+\t0M\n", "GTC", 1, "1 0 0", "=X=");
        // Only a backwards side lies before the last place but one: the least of those that cost least.
        result("S\tc\tC\nS\ta\tG\nS\tb\tG\nS\td\tTAT\nL\tb\t+\tc\t-\t0M\nL\ta\t+\tc\t-\t0M\nL\tc\t-\td\t+\t0M\n",
                "GGTAT", 0, "2 1 6 7 8", "=====");
    }

    private static void rule3() {
        result("S\ta\tA\n", "AT", 1, "0", "=I");
        result("S\ta\tACC\n", "ACCT", 1, "0 1 2", "===I");
        result("S\ta\tAACT\n", "AAGCT", 1, "0 1 2 3", "==I==");
        result("S\ta\tACGT\n", "ACGTCCC", 3, "0 1 2 3", "====III");
    }

    private static void rule4() {
        result("S\ta\tTCA\nL\ta\t+\ta\t+\t0M\n", "TCT", 1, "0 1 2 0", "==D=");
        // The place before the deleted one is place 0.
        result("S\ta\tACGG\nL\ta\t+\ta\t+\t0M\n", "GGAGGA", 1, "2 3 0 1 2 3 0", "===D===");
        String ring = "S\ta\tTTTT\nS\tb\tCCC\nS\tc\tCCGC\nS\td\tTATA\nL\ta\t+\tb\t+\t0M\nL\tb\t+\tc\t+\t0M\n"
                + "L\tc\t+\td\t+\t0M\nL\td\t+\ta\t+\t0M\n";
        result(ring, "ATTTTCGTAATT", 6, "25 0 1 2 3 8 9 10 14 15 16 17 22 23 24 25 0 1", "=====DDDD==D==D===");
    }

    private static void rule4LeastPlace() {
        // The deleted place 4 lies behind 1 and behind 3, and both cost the same.
        result("S\ta\tCG\nS\tb\tTC\nL\tb\t+\ta\t+\t0M\nL\ta\t+\tb\t+\t0M\nL\ta\t-\tb\t+\t0M\n", "GGCGCC", 2,
                "6 7 0 1 4 5 0", "=X==D==");
    }

    private static void rule5() {
        result("S\ta\tC\n", "", 1, "0", "D");
        result("S\ta\tCCC\n", "", 1, "0", "D");
    }

    private static void noBaseLeft() {
        // A place that is followed by itself might be deleted again and again, at a greater cost.
        result("S\ta\tC\nL\ta\t+\ta\t+\t0M\nL\ta\t-\ta\t+\t0M\n", "", 1, "0", "D");
    }

    private static void rule1Before2() {
        result("S\ta\tAT\n", "CT", 1, "1", "I=");
        result("S\ta\tAC\n", "TT", 1, "3", "I=");
    }

    private static void rule1Before3() {
        result("S\ta\tA\n", "GG", 2, "0", "IX");
        result("S\ta\tC\n", "AT", 2, "0", "IX");
    }

    private static void rule1Before4() {
        // At the last place of the side backwards, with two bases, the rules 1, 2 and 4 hold.
        result("S\ta\tAAC\nL\ta\t-\ta\t+\t0M\n", "GTA", 1, "5 0", "I==");
    }

    private static void rule2Before3() {
        result("S\ta\tT\nL\ta\t+\ta\t+\t0M\n", "TA", 1, "0 0", "=X");
        result("S\ta\tG\nL\ta\t-\ta\t-\t0M\n", "GA", 1, "0 0", "=X");
    }

    private static void rule2Before4() {
        result("S\ta\tCCA\nL\ta\t+\ta\t+\t0M\n", "CCC", 1, "1 2 0", "=X=");
    }

    private static void rule3Before4() {
        result("S\ta\tTC\nL\ta\t-\ta\t-\t0M\n", "CTT", 1, "1 0", "=I=");
        result("S\ta\tGA\nL\ta\t+\ta\t+\t0M\n", "CTT", 1, "3 2", "=I=");
    }
}
