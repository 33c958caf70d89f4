/** Promise 16: letter. */
public final class Promise16LetterTest {
    private static final Checks checks = new Checks("Promise 16");

    public static void main(String[] args) {
        checks.test("The code of the i-th character (from 0)", Promise16LetterTest::characters);
        checks.test("BAD when there is none: too small, too large", Promise16LetterTest::noSuchCharacter);
        checks.test("BAD when there is none: no record yet", Promise16LetterTest::noRecordYet);
        checks.test("the record that was written last: a shorter one", Promise16LetterTest::shorterRecord);
        checks.test("the record that was written last: a longer one", Promise16LetterTest::longerRecord);
        checks.test("the record that was written: not of a later result", Promise16LetterTest::laterResult);
        checks.test("the record that was written: behind every other call", Promise16LetterTest::behindOtherCalls);
        checks.end();
    }

    private static void characters() {
        WalkAligner x = Calls.aligned(Calls.CHAIN, "CGTCC");
        x.tell();
        String due = ">a>b<c\t1\t0\t0\t5=";
        for (int i = 0; i < due.length(); i++) {
            checks.same("letter(" + i + ")", x.letter(i), due.charAt(i));
        }
        checks.same("letter(0) again", x.letter(0), 62);
        checks.same("a TAB", x.letter(6), 9);
    }

    private static void noSuchCharacter() {
        WalkAligner x = Calls.aligned(Calls.CHAIN, "CGTCC");
        x.tell();
        checks.same("letter(14)", x.letter(14), '=');
        checks.same("letter(15)", x.letter(15), Calls.BAD);
        checks.same("letter(16)", x.letter(16), Calls.BAD);
        checks.same("letter(-1)", x.letter(-1), Calls.BAD);
        for (int i : Calls.far()) {
            checks.same("letter(" + i + ")", x.letter(i), Calls.BAD);
        }
    }

    private static void noRecordYet() {
        WalkAligner x = new WalkAligner();
        checks.same("a new object", x.letter(0), Calls.BAD);
        x.tell();
        checks.same("behind a tell() in vain", x.letter(0), Calls.BAD);
        Calls.load(x, Calls.CHAIN);
        Calls.read(x, "CGTCC");
        x.align();
        checks.same("behind align() alone", x.letter(0), Calls.BAD);
        for (int i : Calls.far()) {
            checks.same("letter(" + i + ")", x.letter(i), Calls.BAD);
        }
    }

    private static void shorterRecord() {
        WalkAligner x = Calls.aligned(Calls.CHAIN, "CGTCC");
        x.tell();
        x.drop();
        x.align();
        checks.same("tell()", x.tell(), 11);
        checks.same("the record", Calls.record(x), ">a\t0\t2\t1\t1D");
        for (int i = 11; i <= 15; i++) {
            checks.same("letter(" + i + ")", x.letter(i), Calls.BAD);
        }
    }

    private static void longerRecord() {
        WalkAligner x = Calls.aligned(Calls.LOOP, "A");
        x.tell();
        checks.same("the first record", Calls.record(x), ">x\t0\t0\t0\t1=");
        Calls.read(x, "AAAAAAAAAAA");
        x.align();
        checks.same("tell()", x.tell(), 34);
        checks.same("the second record", Calls.record(x), ">x".repeat(12) + "\t0\t0\t0\t12=");
        checks.same("letter(33)", x.letter(33), '=');
        checks.same("letter(34)", x.letter(34), Calls.BAD);
    }

    private static void laterResult() {
        WalkAligner x = Calls.aligned(Calls.CHAIN, "CGTCC");
        x.tell();
        x.drop();
        x.align();
        checks.same("behind align()", Calls.record(x), ">a>b<c\t1\t0\t0\t5=");
        Calls.load(x, Calls.LOOP);
        checks.same("behind load()", Calls.record(x), ">a>b<c\t1\t0\t0\t5=");
        x.align();
        checks.same("behind align() on another graph", Calls.record(x), ">a>b<c\t1\t0\t0\t5=");
        x.tell();
        checks.same("behind tell()", Calls.record(x), ">x\t0\t0\t1\t1D");
    }

    private static void behindOtherCalls() {
        WalkAligner x = Calls.aligned(Calls.CHAIN, "CGTCC");
        x.tell();
        x.type('?');
        x.load();
        x.read('A');
        x.drop();
        x.least(0, 0);
        x.lies(0);
        x.clear();
        x.load();
        x.align();
        x.tell();
        checks.same("the record", Calls.record(x), ">a>b<c\t1\t0\t0\t5=");
    }
}
