/** Promise 3: clear. */
public final class Promise03ClearTest {
    private static final Checks checks = new Checks("Promise 3");

    public static void main(String[] args) {
        checks.test("Makes the text empty", Promise03ClearTest::makesTheTextEmpty);
        checks.test("An empty text stays empty", Promise03ClearTest::emptyTextStaysEmpty);
        checks.test("A full text is empty, and 400 characters go in again", Promise03ClearTest::fullTextIsEmptied);
        checks.test("A line that is not ended is gone", Promise03ClearTest::lineNotEndedIsGone);
        checks.test("Nothing of a longer text is left behind a shorter one", Promise03ClearTest::nothingIsLeft);
        checks.test("The text alone is changed", Promise03ClearTest::leavesTheRest);
        checks.end();
    }

    private static void makesTheTextEmpty() {
        WalkAligner x = Calls.typed("?\n");
        checks.same("load() before", x.load(), -1);
        x.clear();
        checks.same("load() behind", x.load(), 0);
        checks.same("sizes", Calls.sizes(x), "0 0 0 0");
        Calls.load(x, Calls.CHAIN);
        x.clear();
        checks.same("load() behind a good text", x.load(), 0);
        checks.same("sizes behind a good text", Calls.sizes(x), "0 0 0 0");
    }

    private static void emptyTextStaysEmpty() {
        WalkAligner x = new WalkAligner();
        x.clear();
        checks.same("load()", x.load(), 0);
        x.clear();
        x.clear();
        checks.same("load() again", x.load(), 0);
        Calls.type(x, "S\ta\tA\n");
        checks.same("load() of a line", x.load(), 0);
        checks.same("sizes", Calls.sizes(x), "1 0 0 2");
    }

    private static void fullTextIsEmptied() {
        // 400 calls fill the text, and no more than 512 may be made: so the text is told full twice.
        WalkAligner x = Calls.typed("?" + "x".repeat(399));
        checks.no("the 401st", x.type('x'));
        x.clear();
        checks.same("load()", x.load(), 0);
        for (int k = 1; k <= 100; k++) {
            checks.yes("character " + k, x.type('H'));
        }

        WalkAligner y = Calls.typed("?" + "x".repeat(99));
        y.clear();
        Calls.type(y, "H" + "x".repeat(398) + "\n");
        checks.no("the 401st behind clear()", y.type('x'));
        checks.same("load() of the 400", y.load(), 0);
    }

    private static void lineNotEndedIsGone() {
        WalkAligner x = Calls.typed("H\nS\ta\tAC");
        x.clear();
        Calls.type(x, "S\tb\tG\n");
        checks.same("load()", x.load(), 0);
        checks.same("bases", Calls.bases(x), "GC");
    }

    private static void nothingIsLeft() {
        WalkAligner x = Calls.typed("S\ta\tAC\nS\tb\tG\nS\tc\tT\n");
        x.clear();
        Calls.type(x, "S\ta\tTT\n");
        checks.same("load()", x.load(), 0);
        checks.same("sizes", Calls.sizes(x), "1 0 0 4");
        x.clear();
        Calls.type(x, "S\ta\tTT");
        checks.same("load() without the former line end", x.load(), -1);
    }

    private static void leavesTheRest() {
        WalkAligner x = Calls.aligned(Calls.CHAIN, "CGTCC");
        x.tell();
        x.clear();
        checks.same("sizes", Calls.sizes(x), "3 2 1 12");
        checks.same("least(5, 11)", x.least(5, 11), 0);
        checks.same("least(6, 11)", x.least(6, 11), Calls.BAD);
        checks.same("walk", Calls.walk(x), "1 2 6 10 11");
        checks.same("edits", Calls.edits(x), "=====");
        checks.yes("lies(0)", x.lies(0));
        checks.same("record", Calls.record(x), ">a>b<c\t1\t0\t0\t5=");
        checks.same("tell()", x.tell(), 15);
    }
}
