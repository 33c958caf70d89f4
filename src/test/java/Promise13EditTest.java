/** Promise 13: edit. */
public final class Promise13EditTest {
    private static final Checks checks = new Checks("Promise 13");

    public static void main(String[] args) {
        checks.test("The k-th edit of the result (from 0)", Promise13EditTest::editsInOrder);
        checks.test("the code of '=', 'X', 'I' or 'D'", Promise13EditTest::codes);
        checks.test("A result of one edit", Promise13EditTest::oneEdit);
        checks.test("More edits than bases", Promise13EditTest::manyEdits);
        checks.test("BAD when there is none: too small, too large", Promise13EditTest::noSuchEdit);
        checks.test("BAD when there is none: without a result", Promise13EditTest::withoutAResult);
        checks.test("BAD when there is none: of more edits before", Promise13EditTest::formerEdits);
        checks.end();
    }

    private static void editsInOrder() {
        WalkAligner x = Calls.aligned("S\ta\tACGT\n", "ACTT");
        checks.same("edit(0)", x.edit(0), '=');
        checks.same("edit(1)", x.edit(1), '=');
        checks.same("edit(2)", x.edit(2), 'X');
        checks.same("edit(3)", x.edit(3), '=');
        checks.same("edit(4)", x.edit(4), Calls.BAD);
        checks.same("edit(2) again", x.edit(2), 'X');
    }

    private static void codes() {
        checks.same("match", Calls.aligned("S\ta\tA\n", "A").edit(0), 61);
        checks.same("change", Calls.aligned("S\ta\tA\n", "C").edit(0), 88);
        checks.same("insert", Calls.aligned("S\ta\tA\n", "CA").edit(0), 73);
        checks.same("delete", Calls.aligned("S\ta\tA\n", "").edit(0), 68);
    }

    private static void oneEdit() {
        checks.same("of one base", Calls.edits(Calls.aligned(Calls.CHAIN, "T")), "=");
        checks.same("of no base", Calls.edits(Calls.aligned(Calls.CHAIN, "")), "D");
    }

    private static void manyEdits() {
        String ring = "S\ta\tTTTT\nS\tb\tCCC\nS\tc\tCCGC\nS\td\tTATA\nL\ta\t+\tb\t+\t0M\nL\tb\t+\tc\t+\t0M\n"
                + "L\tc\t+\td\t+\t0M\nL\td\t+\ta\t+\t0M\n";
        WalkAligner x = Calls.aligned(ring, "ATTTTCGTAATT");
        checks.same("edits", Calls.edits(x), "=====DDDD==D==D===");
        checks.same("edit(17)", x.edit(17), '=');
        checks.same("edit(18)", x.edit(18), Calls.BAD);
        WalkAligner y = Calls.aligned("S\ta\tA\n", "CCCCCCCCCCCC");
        checks.same("edit(10) of eleven inserts and a change", y.edit(10), 'I');
        checks.same("edit(11) of eleven inserts and a change", y.edit(11), 'X');
        checks.same("edit(12) of eleven inserts and a change", y.edit(12), Calls.BAD);
    }

    private static void noSuchEdit() {
        WalkAligner x = Calls.aligned(Calls.CHAIN, "GTC");
        checks.same("edit(2)", x.edit(2), '=');
        checks.same("edit(-1)", x.edit(-1), Calls.BAD);
        for (int k = 3; k < 40; k++) {
            checks.same("edit(" + k + ")", x.edit(k), Calls.BAD);
        }
        for (int k : Calls.far()) {
            checks.same("edit(" + k + ")", x.edit(k), Calls.BAD);
        }
    }

    private static void withoutAResult() {
        checks.same("a new object", new WalkAligner().edit(0), Calls.BAD);
        WalkAligner x = Calls.ready(Calls.CHAIN, "GTC");
        checks.same("before align()", x.edit(0), Calls.BAD);
        x.align();
        checks.same("behind align()", x.edit(0), '=');
        x.load();
        checks.same("behind load()", x.edit(0), Calls.BAD);
        for (int k : Calls.far()) {
            checks.same("edit(" + k + ")", x.edit(k), Calls.BAD);
        }
        x.clear();
        x.load();
        checks.same("align()", x.align(), Calls.NONE);
        checks.same("behind NONE", x.edit(0), Calls.BAD);
    }

    private static void formerEdits() {
        WalkAligner x = Calls.aligned(Calls.CHAIN, "CGTCC");
        checks.same("edit(4)", x.edit(4), '=');
        x.drop();
        x.align();
        checks.same("edit(0)", x.edit(0), 'D');
        for (int k = 1; k <= 5; k++) {
            checks.same("edit(" + k + ")", x.edit(k), Calls.BAD);
        }
    }
}
