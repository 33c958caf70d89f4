/** Promise 2: type, and the text's limit of 400 characters. */
public final class Promise02TypeTest {
    private static final Checks checks = new Checks("Promise 2");

    public static void main(String[] args) {
        checks.test("Puts a character at the end of the text", Promise02TypeTest::putsAtTheEnd);
        checks.test("true for the codes 9, 10 and 32 .. 126", Promise02TypeTest::takesTheseCodes);
        checks.test("false when its code is not 9, 10 or 32 .. 126", Promise02TypeTest::refusesOtherCodes);
        checks.test("a refused code changes nothing", Promise02TypeTest::refusedCodeChangesNothing);
        checks.test("a refused code is none of the 400", Promise02TypeTest::refusedCodeIsNotCounted);
        checks.test("false when 400 are there", Promise02TypeTest::refusesBeyondTheLimit);
        checks.test("the 401st changes nothing", Promise02TypeTest::refusedBeyondTheLimitChangesNothing);
        checks.test("400 are there behind load(), too", Promise02TypeTest::stillFullBehindLoad);
        checks.test("The text alone is changed", Promise02TypeTest::leavesTheRest);
        checks.end();
    }

    private static void putsAtTheEnd() {
        WalkAligner x = new WalkAligner();
        for (char c : "S\tab\tACGG\n".toCharArray()) {
            checks.yes("type(" + (int) c + ")", x.type(c));
        }
        checks.same("load()", x.load(), 0);
        checks.same("bases", Calls.bases(x), "ACGGCCGT");
    }

    private static boolean isOfText(int code) {
        return code == 9 || code == 10 || (code >= 32 && code <= 126);
    }

    private static void takesTheseCodes() {
        for (int code = 0; code <= 126; code++) {
            if (isOfText(code)) {
                WalkAligner x = new WalkAligner();
                checks.yes("type(" + code + ")", x.type((char) code));
                checks.same("load() of the code " + code + " alone", x.load(), -1);
            }
        }
    }

    private static void refusesOtherCodes() {
        for (int code = 0; code <= 0xFFFF; code++) {
            if (!isOfText(code)) {
                WalkAligner x = new WalkAligner();
                checks.no("type(" + code + ")", x.type((char) code));
                checks.same("load() behind " + code, x.load(), 0);
            }
        }
    }

    private static void refusedCodeChangesNothing() {
        int[] refused = {0, 8, 11, 13, 31, 127, 128, 255, 256 + 9, 256 + 10, 256 + 'A', 0xFFFF};
        WalkAligner x = new WalkAligner();
        for (char c : "S\ta\tAC\n".toCharArray()) {
            for (int code : refused) {
                checks.no("type(" + code + ") before " + (int) c, x.type((char) code));
            }
            checks.yes("type(" + (int) c + ")", x.type(c));
        }
        checks.same("load()", x.load(), 0);
        checks.same("bases", Calls.bases(x), "ACGT");
    }

    private static void refusedCodeIsNotCounted() {
        WalkAligner x = Calls.typed("H" + "x".repeat(398));
        checks.no("type(127) when 399 are there", x.type((char) 127));
        checks.yes("the 400th", x.type('\n'));
        checks.same("load()", x.load(), 0);
        checks.no("type(8) when 400 are there", x.type((char) 8));
        checks.same("load() again", x.load(), 0);
    }

    private static void refusesBeyondTheLimit() {
        WalkAligner x = Calls.typed("H" + "~".repeat(398));
        checks.yes("the 400th", x.type('~'));
        for (char c : "\t\n ~AHS0".toCharArray()) {
            checks.no("the 401st, " + (int) c, x.type(c));
        }
    }

    private static void refusedBeyondTheLimitChangesNothing() {
        WalkAligner notEnded = Calls.typed("H" + " ".repeat(399));
        checks.no("a line end as the 401st", notEnded.type('\n'));
        checks.same("load() of a line that is not ended", notEnded.load(), -1);

        WalkAligner ended = Calls.typed("S\ta\tAC\nH" + " ".repeat(391) + "\n");
        checks.no("the 401st", ended.type('?'));
        checks.same("load() of lines that are all ended", ended.load(), 0);
        checks.same("bases", Calls.bases(ended), "ACGT");
    }

    private static void stillFullBehindLoad() {
        WalkAligner x = Calls.typed("H" + " ".repeat(398) + "\n");
        checks.same("load()", x.load(), 0);
        checks.no("the 401st behind a good text", x.type('H'));
        WalkAligner y = Calls.typed("?" + " ".repeat(399));
        checks.same("load()", y.load(), -1);
        checks.no("the 401st behind a text that is not good", y.type('\n'));
    }

    private static void leavesTheRest() {
        WalkAligner x = Calls.aligned(Calls.CHAIN, "CGTCC");
        x.tell();
        Calls.type(x, "S\tz\tA\n?");
        checks.same("sizes", Calls.sizes(x), "3 2 1 12");
        checks.same("least(5, 11)", x.least(5, 11), 0);
        checks.same("walk", Calls.walk(x), "1 2 6 10 11");
        checks.same("edits", Calls.edits(x), "=====");
        checks.yes("lies(0)", x.lies(0));
        checks.same("record", Calls.record(x), ">a>b<c\t1\t0\t0\t5=");
    }
}
