/** Promise 15: tell. */
public final class Promise15TellTest {
    private static final Checks checks = new Checks("Promise 15");

    public static void main(String[] args) {
        checks.test("Writes the record of the result: its length", Promise15TellTest::lengthOfTheRecord);
        checks.test("BAD when there is no result", Promise15TellTest::withoutAResult);
        checks.test("BAD, changing nothing", Promise15TellTest::badChangesNothing);
        checks.test("'>' (forwards) or '<' (backwards)", Promise15TellTest::turnsOfSides);
        checks.test("the segment's name, of 1 .. 3 characters", Promise15TellTest::namesOfSides);
        checks.test("for each side of the walk, the same again too", Promise15TellTest::sameSideAgain);
        checks.test("for each side of the walk, those of deletes too", Promise15TellTest::deletedSide);
        checks.test("how many places of the first side lie before the walk", Promise15TellTest::placesBefore);
        checks.test("how many places of the last side lie behind the walk", Promise15TellTest::placesBehind);
        checks.test("places before and behind a walk of one side", Promise15TellTest::placesBeforeAndBehind);
        checks.test("the cost", Promise15TellTest::costs);
        checks.test("for each run of equal edits their number and their sign", Promise15TellTest::runsOfEdits);
        checks.test("Numbers are decimal: of two digits", Promise15TellTest::numbersOfTwoDigits);
        checks.test("the record of an empty read", Promise15TellTest::emptyRead);
        checks.test("a record of many sides and edits", Promise15TellTest::longRecord);
        checks.test("the record of the result, not of the text and the read", Promise15TellTest::ofTheResult);
        checks.test("Told again, the record is the same", Promise15TellTest::toldAgain);
        checks.end();
    }

    private static void told(String text, String read, String due) {
        WalkAligner x = Calls.aligned(text, read);
        checks.same("tell() of " + read + " on " + Calls.shown(text), x.tell(), due.length());
        checks.same("record of " + read + " on " + Calls.shown(text), Calls.record(x), due);
    }

    private static void lengthOfTheRecord() {
        checks.same("of 15 characters", Calls.aligned(Calls.CHAIN, "CGTCC").tell(), 15);
        checks.same("of 11 characters", Calls.aligned(Calls.CHAIN, "").tell(), 11);
        told(Calls.CHAIN, "CGTCC", ">a>b<c\t1\t0\t0\t5=");
    }

    private static void withoutAResult() {
        checks.same("a new object", new WalkAligner().tell(), Calls.BAD);
        WalkAligner x = Calls.ready(Calls.CHAIN, "GTC");
        checks.same("before align()", x.tell(), Calls.BAD);
        x.align();
        checks.same("behind align()", x.tell(), 15);
        x.load();
        checks.same("behind load()", x.tell(), Calls.BAD);
        x.clear();
        x.load();
        x.align();
        checks.same("behind NONE", x.tell(), Calls.BAD);
    }

    private static void badChangesNothing() {
        WalkAligner x = new WalkAligner();
        checks.same("tell() of a new object", x.tell(), Calls.BAD);
        checks.same("its record", x.letter(0), Calls.BAD);
        Calls.load(x, Calls.CHAIN);
        Calls.read(x, "CGTCC");
        x.align();
        x.tell();
        x.load();
        checks.same("tell() behind load()", x.tell(), Calls.BAD);
        checks.same("the record is the former one", Calls.record(x), ">a>b<c\t1\t0\t0\t5=");
        checks.same("the read is what it was", x.least(5, 11), 0);
        checks.same("there is still no result", x.walk(0), Calls.BAD);
    }

    private static void turnsOfSides() {
        told(Calls.CHAIN, "CGTCC", ">a>b<c\t1\t0\t0\t5=");
        told(Calls.CHAIN, "GACG", ">c<b<a\t1\t1\t0\t4=");
        told("S\ta\tAC\nL\ta\t+\ta\t-\t0M\n", "ACGT", ">a<a\t0\t0\t0\t4=");
    }

    private static void namesOfSides() {
        told("S\tz\tACCT\n", "AC", ">z\t0\t2\t0\t2=");
        told("S\tab\tACCT\n", "AC", ">ab\t0\t2\t0\t2=");
        told("S\tabc\tACCT\n", "AC", ">abc\t0\t2\t0\t2=");
        told("S\t0\tACCT\n", "AC", ">0\t0\t2\t0\t2=");
        told("S\t000\tACCT\n", "AC", ">000\t0\t2\t0\t2=");
        told("S\t9z0\tACCT\n", "GG", "<9z0\t1\t1\t0\t2=");
        told("S\taz\tACA\nS\t0\tG\nS\tz09\tT\nL\taz\t+\t0\t-\t0M\nL\t0\t-\tz09\t+\t0M\n", "ACT", ">az<0>z09\t2\t0\t0\t3=");
    }

    private static void sameSideAgain() {
        told(Calls.LOOP, "AAA", ">x>x>x\t0\t0\t0\t3=");
        told(Calls.LOOP, "TT", "<x<x\t0\t0\t0\t2=");
        told("S\tx\tAC\nL\tx\t+\tx\t+\t0M\n", "CACA", ">x>x>x\t1\t1\t0\t4=");
        told("S\tx\tAC\nL\tx\t+\tx\t+\t0M\n", "AC", ">x\t0\t0\t0\t2=");
    }

    private static void deletedSide() {
        told("S\ta\tACCA\nS\tb\tG\nS\tc\tCAAC\nL\ta\t+\tb\t+\t0M\nL\tb\t+\tc\t+\t0M\n", "ACCACAAC",
                ">a>b>c\t0\t0\t1\t4=1D4=");
    }

    private static void placesBefore() {
        String two = "S\ta\tACGA\nS\tb\tTTTT\nL\ta\t+\tb\t+\t0M\n";
        told(two, "ACGATTTT", ">a>b\t0\t0\t0\t8=");
        told(two, "CGATTTT", ">a>b\t1\t0\t0\t7=");
        told(two, "GATTTT", ">a>b\t2\t0\t0\t6=");
        told(two, "ATTTT", ">a>b\t3\t0\t0\t5=");
        told(two, "AAATC", "<b<a\t1\t2\t0\t5=");
    }

    private static void placesBehind() {
        String two = "S\ta\tACGA\nS\tb\tTTCT\nL\ta\t+\tb\t+\t0M\n";
        told(two, "ACGATTCT", ">a>b\t0\t0\t0\t8=");
        told(two, "ACGATTC", ">a>b\t0\t1\t0\t7=");
        told(two, "ACGATT", ">a>b\t0\t2\t0\t6=");
        told(two, "ACGAT", ">a>b\t0\t3\t0\t5=");
        told(two, "AGAAT", "<b<a\t0\t3\t0\t5=");
    }

    private static void placesBeforeAndBehind() {
        told("S\ta\tACGT\n", "CG", ">a\t1\t1\t0\t2=");
        told("S\ta\tAACA\n", "C", ">a\t2\t1\t0\t1=");
        told("S\ta\tAACA\n", "G", "<a\t1\t2\t0\t1=");
        told("S\ta\tAAAC\n", "C", ">a\t3\t0\t0\t1=");
        told("S\ta\tCAAA\n", "C", ">a\t0\t3\t0\t1=");
        told("S\ta\tA\n", "A", ">a\t0\t0\t0\t1=");
    }

    private static void costs() {
        told("S\ta\tACGT\n", "ACGT", ">a\t0\t0\t0\t4=");
        told("S\ta\tACGT\n", "ACTT", ">a\t0\t0\t1\t2=1X1=");
        told("S\ta\tA\n", "CCC", ">a\t0\t0\t3\t2I1X");
    }

    private static void runsOfEdits() {
        told("S\ta\tA\n", "A", ">a\t0\t0\t0\t1=");
        told("S\ta\tA\n", "C", ">a\t0\t0\t1\t1X");
        told("S\ta\tAACT\n", "AAGCT", ">a\t0\t0\t1\t2=1I2=");
        told("S\ta\tACGT\n", "ACGTCCC", ">a\t0\t0\t3\t4=3I");
        told("S\t9\tAACT\nS\tb\tGGTG\nL\t9\t+\tb\t+\t0M\n", "AACGGTG", ">9>b\t0\t0\t1\t3=1D4=");
        told("S\ta\tAACC\nS\tb\tAGGC\nL\ta\t+\tb\t+\t0M\n", "AATCTGGC", ">a>b\t0\t0\t2\t2=1X1=1X3=");
        told("S\ta\tACGT\nL\ta\t+\ta\t+\t0M\n", "ACGACGACGACG", ">a>a>a>a\t0\t1\t3\t3=1D3=1D3=1D3=");
    }

    private static void numbersOfTwoDigits() {
        told("S\tx\tA\n", "CCCCCCCCCCCC", ">x\t0\t0\t12\t11I1X");
        told("S\tx\tA\n", "CCCCCCCCCC", ">x\t0\t0\t10\t9I1X");
        told("S\tx\tA\n", "CCCCCCCCC", ">x\t0\t0\t9\t8I1X");
        told("S\tx\tA\n", "CCCCCCCCCCA", ">x\t0\t0\t10\t10I1=");
        told(Calls.LOOP, "AAAAAAAAAA", ">x".repeat(10) + "\t0\t0\t0\t10=");
        told(Calls.LOOP, "AAAAAAAAAAAA", ">x".repeat(12) + "\t0\t0\t0\t12=");
    }

    private static void emptyRead() {
        told("S\tx\tA\n", "", ">x\t0\t0\t1\t1D");
        told(Calls.CHAIN, "", ">a\t0\t2\t1\t1D");
        told("S\tabc\tACGT\n", "", ">abc\t0\t3\t1\t1D");
    }

    private static void longRecord() {
        String ring = "S\ta\tTTTT\nS\tb\tCCC\nS\tc\tCCGC\nS\td\tTATA\nL\ta\t+\tb\t+\t0M\nL\tb\t+\tc\t+\t0M\n"
                + "L\tc\t+\td\t+\t0M\nL\td\t+\ta\t+\t0M\n";
        told(ring, "ATTTTCGTAATT", ">d>a>b>c>d>a\t3\t2\t6\t5=4D2=1D2=1D3=");
        told("S\tx00\tA\nL\tx00\t+\tx00\t+\t0M\n", "AAAAAAAAAAAA", ">x00".repeat(12) + "\t0\t0\t0\t12=");
        told(Calls.FULL, "TCGAACGTAAAA", ">h>a>b\t0\t0\t0\t12=");
    }

    private static void ofTheResult() {
        WalkAligner x = Calls.aligned(Calls.CHAIN, "CGTCC");
        x.drop();
        checks.same("tell() behind drop()", x.tell(), 15);
        Calls.read(x, "AA");
        x.clear();
        Calls.type(x, "S\tz\tA\nS\tz\tA\n");
        checks.same("load() of a text that is not good", x.load(), -2);
        checks.same("tell()", x.tell(), 15);
        checks.same("the record", Calls.record(x), ">a>b<c\t1\t0\t0\t5=");
    }

    private static void toldAgain() {
        WalkAligner x = Calls.aligned(Calls.CHAIN, "CGTCC");
        checks.same("tell()", x.tell(), 15);
        checks.same("tell() again", x.tell(), 15);
        checks.same("the record", Calls.record(x), ">a>b<c\t1\t0\t0\t5=");
        checks.same("the walk", Calls.walk(x), "1 2 6 10 11");
        checks.same("the edits", Calls.edits(x), "=====");
    }
}
