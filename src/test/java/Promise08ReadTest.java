/** Promise 8: read, and the read's limit of 12 bases. */
public final class Promise08ReadTest {
    private static final Checks checks = new Checks("Promise 8");

    public static void main(String[] args) {
        checks.test("Puts a base at the end of the read: true", Promise08ReadTest::putsAtTheEnd);
        checks.test("A base goes in without a graph, too", Promise08ReadTest::withoutAGraph);
        checks.test("false when c is none of A, C, G, T", Promise08ReadTest::refusesOtherCodes);
        checks.test("a refused code changes nothing", Promise08ReadTest::refusedCodeChangesNothing);
        checks.test("a refused code is none of the 12", Promise08ReadTest::refusedCodeIsNotCounted);
        checks.test("false when 12 are there", Promise08ReadTest::refusesBeyondTheLimit);
        checks.test("the 13th changes nothing", Promise08ReadTest::refusedBeyondTheLimitChangesNothing);
        checks.test("12 are there behind align() and load(), too", Promise08ReadTest::stillFull);
        checks.test("The result stays", Promise08ReadTest::resultStays);
        checks.end();
    }

    private static void putsAtTheEnd() {
        WalkAligner x = Calls.loaded("S\ta\tACGT\n");
        String bases = "ACGT";
        for (int k = 0; k < 4; k++) {
            checks.yes("base " + bases.charAt(k), x.read(bases.charAt(k)));
            checks.same("least of all so far", x.least(k + 1, k), 0);
            checks.same("least of one more", x.least(k + 2, k), Calls.BAD);
        }
        checks.same("the first is still the first", x.least(1, 0), 0);
        checks.same("align()", x.align(), 0);
        checks.same("walk", Calls.walk(x), "0 1 2 3");
    }

    private static void withoutAGraph() {
        WalkAligner x = new WalkAligner();
        checks.yes("read", x.read('G'));
        checks.no("read of another code", x.read('N'));
        Calls.load(x, "S\ta\tG\n");
        checks.same("least(1, 0)", x.least(1, 0), 0);
        checks.same("least(2, 0)", x.least(2, 0), Calls.BAD);
    }

    private static void refusesOtherCodes() {
        WalkAligner x = new WalkAligner();
        for (int code = 0; code <= 0xFFFF; code++) {
            if (code % 500 == 0) {
                x = Calls.loaded("S\ta\tA\n");
            }
            if ("ACGT".indexOf(code) < 0) {
                checks.no("read(" + code + ")", x.read((char) code));
            }
        }
        checks.same("least(1, 0)", x.least(1, 0), Calls.BAD);
    }

    private static void refusedCodeChangesNothing() {
        int[] refused = {0, 10, '@', 'B', 'D', 'F', 'H', 'N', 'S', 'U', 'a', 'c', 'g', 't', 256 + 'A', 0xFFFF};
        WalkAligner x = Calls.loaded("S\ta\tACGT\n");
        for (char base : "ACGT".toCharArray()) {
            for (int code : refused) {
                checks.no("read(" + code + ") before " + base, x.read((char) code));
            }
            checks.yes("read " + base, x.read(base));
        }
        checks.same("least(4, 3)", x.least(4, 3), 0);
        checks.same("least(5, 3)", x.least(5, 3), Calls.BAD);
    }

    private static void refusedCodeIsNotCounted() {
        WalkAligner x = Calls.ready(Calls.LOOP, "AAAAAAAAAAA");
        checks.no("read N when 11 are there", x.read('N'));
        checks.yes("the 12th", x.read('A'));
        checks.same("least(12, 0)", x.least(12, 0), 0);
    }

    private static void refusesBeyondTheLimit() {
        WalkAligner x = Calls.ready(Calls.LOOP, "AAAAAAAAAAA");
        checks.yes("the 12th", x.read('A'));
        for (char c : "ACGTN".toCharArray()) {
            checks.no("the 13th, " + c, x.read(c));
        }
    }

    private static void refusedBeyondTheLimitChangesNothing() {
        WalkAligner x = Calls.ready(Calls.LOOP, "AAAAAAAAAAAA");
        checks.no("the 13th", x.read('C'));
        checks.same("least(13, 0)", x.least(13, 0), Calls.BAD);
        checks.same("least(12, 0)", x.least(12, 0), 0);
        checks.same("least(1, 0)", x.least(1, 0), 0);
        checks.same("align()", x.align(), 0);
        checks.same("edits", Calls.edits(x), "============");
    }

    private static void stillFull() {
        WalkAligner x = Calls.ready(Calls.LOOP, "AAAAAAAAAAAA");
        x.align();
        checks.no("the 13th behind align()", x.read('A'));
        checks.same("load()", x.load(), 0);
        checks.no("the 13th behind load()", x.read('A'));
        x.clear();
        checks.no("the 13th behind clear()", x.read('A'));
    }

    private static void resultStays() {
        WalkAligner x = Calls.aligned(Calls.CHAIN, "CGTCC");
        Calls.read(x, "AAAAAAA");
        checks.no("the 13th", x.read('A'));
        checks.no("read N", x.read('N'));
        checks.same("walk", Calls.walk(x), "1 2 6 10 11");
        checks.same("edits", Calls.edits(x), "=====");
        checks.yes("lies(0)", x.lies(0));
        checks.same("tell()", x.tell(), 15);
        checks.same("record", Calls.record(x), ">a>b<c\t1\t0\t0\t5=");
    }
}
