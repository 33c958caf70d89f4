/** Promise 12: walk. */
public final class Promise12WalkTest {
    private static final Checks checks = new Checks("Promise 12");

    public static void main(String[] args) {
        checks.test("The k-th place of the result's walk (from 0)", Promise12WalkTest::placesOfTheWalk);
        checks.test("Places are deleted, too, and inserts have none", Promise12WalkTest::placesOfEdits);
        checks.test("A walk of one place", Promise12WalkTest::onePlace);
        checks.test("A walk longer than the read", Promise12WalkTest::longWalk);
        checks.test("BAD when there is none: too small, too large", Promise12WalkTest::noSuchPlace);
        checks.test("BAD when there is none: without a result", Promise12WalkTest::withoutAResult);
        checks.test("BAD when there is none: of a longer walk before", Promise12WalkTest::formerWalk);
        checks.end();
    }

    private static void placesOfTheWalk() {
        WalkAligner x = Calls.aligned(Calls.CHAIN, "GTC");
        checks.same("walk(0)", x.walk(0), 2);
        checks.same("walk(1)", x.walk(1), 6);
        checks.same("walk(2)", x.walk(2), 10);
        checks.same("walk(3)", x.walk(3), Calls.BAD);
        checks.same("walk(0) again", x.walk(0), 2);
    }

    private static void placesOfEdits() {
        checks.same("a change", Calls.walk(Calls.aligned("S\ta\tACGT\n", "ACTT")), "0 1 2 3");
        checks.same("an insert", Calls.walk(Calls.aligned("S\ta\tAACT\n", "AAGCT")), "0 1 2 3");
        checks.same("inserts first", Calls.walk(Calls.aligned("S\ta\tAC\n", "GGC")), "1");
        checks.same("a delete", Calls.walk(Calls.aligned("S\ta\tTCA\nL\ta\t+\ta\t+\t0M\n", "TCT")), "0 1 2 0");
    }

    private static void onePlace() {
        WalkAligner x = Calls.aligned(Calls.CHAIN, "");
        checks.same("walk(0) of an empty read", x.walk(0), 0);
        checks.same("walk(1) of an empty read", x.walk(1), Calls.BAD);
        WalkAligner y = Calls.aligned("S\ta\tA\n", "CCCCCCCCCCCC");
        checks.same("walk(0) of twelve bases", y.walk(0), 0);
        checks.same("walk(1) of twelve bases", y.walk(1), Calls.BAD);
    }

    private static void longWalk() {
        String ring = "S\ta\tTTTT\nS\tb\tCCC\nS\tc\tCCGC\nS\td\tTATA\nL\ta\t+\tb\t+\t0M\nL\tb\t+\tc\t+\t0M\n"
                + "L\tc\t+\td\t+\t0M\nL\td\t+\ta\t+\t0M\n";
        WalkAligner x = Calls.aligned(ring, "ATTTTCGTAATT");
        checks.same("walk", Calls.walk(x), "25 0 1 2 3 8 9 10 14 15 16 17 22 23 24 25 0 1");
        checks.same("walk(17)", x.walk(17), 1);
        checks.same("walk(18)", x.walk(18), Calls.BAD);
    }

    private static void noSuchPlace() {
        WalkAligner x = Calls.aligned(Calls.CHAIN, "GTC");
        checks.same("walk(-1)", x.walk(-1), Calls.BAD);
        for (int k = 3; k < 40; k++) {
            checks.same("walk(" + k + ")", x.walk(k), Calls.BAD);
        }
        for (int k : Calls.far()) {
            checks.same("walk(" + k + ")", x.walk(k), Calls.BAD);
        }
    }

    private static void withoutAResult() {
        checks.same("a new object", new WalkAligner().walk(0), Calls.BAD);
        WalkAligner x = Calls.ready(Calls.CHAIN, "GTC");
        checks.same("before align()", x.walk(0), Calls.BAD);
        x.align();
        checks.same("behind align()", x.walk(0), 2);
        x.load();
        checks.same("behind load()", x.walk(0), Calls.BAD);
        for (int k : Calls.far()) {
            checks.same("walk(" + k + ")", x.walk(k), Calls.BAD);
        }
        x.clear();
        x.load();
        checks.same("align()", x.align(), Calls.NONE);
        checks.same("behind NONE", x.walk(0), Calls.BAD);
    }

    private static void formerWalk() {
        WalkAligner x = Calls.aligned(Calls.CHAIN, "CGTCC");
        checks.same("walk(4)", x.walk(4), 11);
        x.drop();
        Calls.read(x, "GT");
        x.align();
        checks.same("walk(1)", x.walk(1), 5);
        for (int k = 2; k <= 5; k++) {
            checks.same("walk(" + k + ")", x.walk(k), Calls.BAD);
        }
    }
}
