/** Promise 9: drop. */
public final class Promise09DropTest {
    private static final Checks checks = new Checks("Promise 9");

    public static void main(String[] args) {
        checks.test("Makes the read empty", Promise09DropTest::makesTheReadEmpty);
        checks.test("An empty read stays empty", Promise09DropTest::emptyReadStaysEmpty);
        checks.test("A full read is empty, and 12 bases go in again", Promise09DropTest::fullReadIsEmptied);
        checks.test("Nothing of a longer read is left behind a shorter one", Promise09DropTest::nothingIsLeft);
        checks.test("The result stays", Promise09DropTest::resultStays);
        checks.test("The text, the graph and the record stay", Promise09DropTest::leavesTheRest);
        checks.end();
    }

    private static void makesTheReadEmpty() {
        WalkAligner x = Calls.ready(Calls.CHAIN, "CGTCC");
        checks.same("least(5, 11) before", x.least(5, 11), 0);
        x.drop();
        checks.same("least(1, 1)", x.least(1, 1), Calls.BAD);
        checks.same("least(0, 1)", x.least(0, 1), 1);
        checks.same("align()", x.align(), 1);
        checks.same("edits", Calls.edits(x), "D");
    }

    private static void emptyReadStaysEmpty() {
        WalkAligner x = new WalkAligner();
        x.drop();
        Calls.load(x, Calls.LOOP);
        x.drop();
        x.drop();
        checks.same("least(1, 0)", x.least(1, 0), Calls.BAD);
        checks.same("least(0, 0)", x.least(0, 0), 1);
        checks.yes("read", x.read('A'));
        checks.same("least(1, 0) behind a base", x.least(1, 0), 0);
        checks.same("least(2, 0) behind a base", x.least(2, 0), Calls.BAD);
    }

    private static void fullReadIsEmptied() {
        WalkAligner x = Calls.ready(Calls.LOOP, "CCCCCCCCCCCC");
        checks.no("the 13th", x.read('A'));
        x.drop();
        for (int k = 1; k <= 12; k++) {
            checks.yes("base " + k, x.read('A'));
        }
        checks.no("the 13th again", x.read('A'));
        checks.same("align()", x.align(), 0);
    }

    private static void nothingIsLeft() {
        WalkAligner x = Calls.ready("S\ta\tACGT\n", "ACGT");
        x.drop();
        Calls.read(x, "GT");
        checks.same("least(2, 3)", x.least(2, 3), 0);
        checks.same("least(3, 3)", x.least(3, 3), Calls.BAD);
        checks.same("align()", x.align(), 0);
        checks.same("walk", Calls.walk(x), "2 3");
    }

    private static void resultStays() {
        WalkAligner x = Calls.aligned(Calls.CHAIN, "CGTCC");
        x.drop();
        checks.same("walk", Calls.walk(x), "1 2 6 10 11");
        checks.same("edits", Calls.edits(x), "=====");
        checks.yes("lies(0)", x.lies(0));
        checks.same("tell()", x.tell(), 15);
        checks.same("record", Calls.record(x), ">a>b<c\t1\t0\t0\t5=");
    }

    private static void leavesTheRest() {
        WalkAligner x = Calls.aligned(Calls.CHAIN, "CGTCC");
        x.tell();
        x.drop();
        checks.same("record", Calls.record(x), ">a>b<c\t1\t0\t0\t5=");
        checks.same("sizes", Calls.sizes(x), "3 2 1 12");
        checks.same("load() of the text", x.load(), 0);
        checks.same("sizes behind it", Calls.sizes(x), "3 2 1 12");
    }
}
