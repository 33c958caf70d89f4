/** Promise 5: size. */
public final class Promise05SizeTest {
    private static final Checks checks = new Checks("Promise 5");

    public static void main(String[] args) {
        checks.test("How many there are in the graph", Promise05SizeTest::howMany);
        checks.test("None of any in a graph of no lines", Promise05SizeTest::noneOfAny);
        checks.test("As many as a graph may have", Promise05SizeTest::asManyAsMayBe);
        checks.test("BAD when what is something else", Promise05SizeTest::somethingElse);
        checks.test("In the graph, not in the text", Promise05SizeTest::notInTheText);
        checks.end();
    }

    private static void howMany() {
        WalkAligner x = Calls.loaded(Calls.CHAIN);
        checks.same("0: segments", x.size(0), 3);
        checks.same("1: links", x.size(1), 2);
        checks.same("2: paths", x.size(2), 1);
        checks.same("3: places", x.size(3), 12);
    }

    private static void noneOfAny() {
        checks.same("of a new object", Calls.sizes(new WalkAligner()), "0 0 0 0");
        WalkAligner x = Calls.loaded("H\n");
        checks.same("of a line that is no segment", Calls.sizes(x), "0 0 0 0");
    }

    private static void asManyAsMayBe() {
        WalkAligner x = Calls.loaded(Calls.FULL);
        checks.same("0: segments", x.size(0), 8);
        checks.same("1: links", x.size(1), 12);
        checks.same("2: paths", x.size(2), 4);
        checks.same("3: places", x.size(3), 64);
    }

    private static void somethingElse() {
        for (WalkAligner x : new WalkAligner[] {new WalkAligner(), Calls.aligned(Calls.CHAIN, "A")}) {
            checks.same("size(-1)", x.size(-1), Calls.BAD);
            checks.same("size(4)", x.size(4), Calls.BAD);
            for (int what : Calls.far()) {
                checks.same("size(" + what + ")", x.size(what), Calls.BAD);
            }
        }
    }

    private static void notInTheText() {
        WalkAligner x = Calls.loaded(Calls.CHAIN);
        Calls.type(x, "S\td\tA\n");
        checks.same("before load()", Calls.sizes(x), "3 2 1 12");
        checks.same("load()", x.load(), 0);
        checks.same("behind load()", Calls.sizes(x), "4 2 1 14");
        Calls.type(x, "S\te\tA\nL\te\t+\ta\t+\t0M\nP\tq\te+\t*\n?");
        checks.same("load() of a text that is not good", x.load(), -12);
        checks.same("behind it", Calls.sizes(x), "4 2 1 14");
        x.clear();
        checks.same("behind clear()", Calls.sizes(x), "4 2 1 14");
    }
}
