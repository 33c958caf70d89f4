/** Promise 1: an empty text, no segments, an empty read, no result, an empty record. */
public final class Promise01NewObjectTest {
    private static final Checks checks = new Checks("Promise 1");

    public static void main(String[] args) {
        checks.test("An empty text", Promise01NewObjectTest::emptyText);
        checks.test("An empty text, into which 400 characters go", Promise01NewObjectTest::roomForAWholeText);
        checks.test("no segments", Promise01NewObjectTest::noSegments);
        checks.test("an empty read", Promise01NewObjectTest::emptyRead);
        checks.test("an empty read, into which 12 bases go", Promise01NewObjectTest::roomForAWholeRead);
        checks.test("no result", Promise01NewObjectTest::noResult);
        checks.test("an empty record", Promise01NewObjectTest::emptyRecord);
        checks.test("All this, whatever was done to another object", Promise01NewObjectTest::besideAnotherObject);
        checks.test("An object is used for at most 512 calls", Promise01NewObjectTest::upToTheLastCall);
        checks.end();
    }

    private static void emptyText() {
        checks.same("load() of no line", new WalkAligner().load(), 0);
        WalkAligner x = Calls.typed("S\ta\tA\n");
        checks.same("load() of the only line", x.load(), 0);
        checks.same("sizes", Calls.sizes(x), "1 0 0 2");
        checks.same("load() of a first line that is wrong", Calls.typed("\n").load(), -1);
    }

    private static void roomForAWholeText() {
        WalkAligner x = new WalkAligner();
        for (int k = 1; k <= 400; k++) {
            checks.yes("character " + k, x.type('H'));
        }
        checks.no("character 401", x.type('H'));
    }

    private static void noSegments() {
        WalkAligner x = new WalkAligner();
        checks.same("sizes", Calls.sizes(x), "0 0 0 0");
        checks.same("base(0)", x.base(0), Calls.BAD);
        checks.no("follows(0, 0)", x.follows(0, 0));
        checks.same("least(0, 0)", x.least(0, 0), Calls.BAD);
        checks.same("align()", x.align(), Calls.NONE);
    }

    private static void emptyRead() {
        WalkAligner x = Calls.loaded(Calls.CHAIN);
        checks.same("least(1, 0)", x.least(1, 0), Calls.BAD);
        checks.same("least(0, 0)", x.least(0, 0), 1);
        checks.same("align(), which deletes a place", x.align(), 1);
        checks.same("edits", Calls.edits(x), "D");
    }

    private static void roomForAWholeRead() {
        WalkAligner x = new WalkAligner();
        for (int k = 1; k <= 12; k++) {
            checks.yes("base " + k, x.read('A'));
        }
        checks.no("base 13", x.read('A'));
    }

    private static void noResult() {
        Calls.checkNoResult(checks, "of a new object", new WalkAligner());
        Calls.checkNoResult(checks, "before the first align()", Calls.ready(Calls.LOOP, "A"));
    }

    private static void emptyRecord() {
        WalkAligner x = new WalkAligner();
        checks.same("letter(0)", x.letter(0), Calls.BAD);
        for (int i : Calls.far()) {
            checks.same("letter(" + i + ")", x.letter(i), Calls.BAD);
        }
    }

    private static void besideAnotherObject() {
        WalkAligner other = Calls.aligned(Calls.CHAIN, "CGTCC");
        other.tell();
        emptyText();
        noSegments();
        emptyRead();
        noResult();
        emptyRecord();
        checks.same("the other's sizes", Calls.sizes(other), "3 2 1 12");
        checks.same("the other's walk", Calls.walk(other), "1 2 6 10 11");
        checks.same("the other's record", Calls.record(other), ">a>b<c\t1\t0\t0\t5=");
    }

    private static void upToTheLastCall() {
        WalkAligner x = Calls.typed(Calls.FULL);
        checks.same("load()", x.load(), 0);
        Calls.read(x, "TCGAACGTAAAA");
        int firstCallLeft = Calls.FULL.length() + 1 + 12 + 1;
        for (int call = firstCallLeft; call <= 507; call++) {
            checks.same("call " + call, x.least(12, 11), 0);
        }
        checks.no("call 508", x.read('A'));
        checks.same("call 509", x.align(), 0);
        checks.same("call 510", x.tell(), ">h>a>b\t0\t0\t0\t12=".length());
        checks.same("call 511", x.letter(1), 'h');
        checks.same("call 512", x.walk(11), 11);
    }
}
