/** Promise 4: what load answers, and what it changes. Its limits and the forms of lines have tests of their own. */
public final class Promise04LoadTest {
    private static final Checks checks = new Checks("Promise 4, load");

    public static void main(String[] args) {
        checks.test("Reads the text, which stays, when it is good", Promise04LoadTest::goodTextStays);
        checks.test("Reads the text, which stays, when it is not good", Promise04LoadTest::badTextStays);
        checks.test("0, when it is good; then it is the graph", Promise04LoadTest::goodTextIsTheGraph);
        checks.test("The empty text is good and is a graph without segments", Promise04LoadTest::emptyTextIsTheGraph);
        checks.test("Nothing of the former graph is left", Promise04LoadTest::nothingIsLeftOfTheFormerGraph);
        checks.test("Nothing of the former graph's links counts", Promise04LoadTest::formerLinksDoNotCount);
        checks.test("Nothing of a text that was not good is left", Promise04LoadTest::nothingIsLeftOfABadText);
        checks.test("and there is no result", Promise04LoadTest::thereIsNoResult);
        checks.test("minus the number of the first line", Promise04LoadTest::numberOfTheLine);
        checks.test("the first line that makes it not good, of several", Promise04LoadTest::firstOfSeveralLines);
        checks.test("the number of the last line that a text may have", Promise04LoadTest::numberOfTheLastLine);
        checks.test("a line that is not ended, too", Promise04LoadTest::lineThatIsNotEnded);
        checks.test("the graph stays", Promise04LoadTest::graphStays);
        checks.test("the result stays", Promise04LoadTest::resultStays);
        checks.test("The read stays", Promise04LoadTest::readStays);
        checks.test("The record stays", Promise04LoadTest::recordStays);
        checks.end();
    }

    private static void goodTextStays() {
        WalkAligner x = Calls.typed("S\ta\tA\n");
        checks.same("load()", x.load(), 0);
        checks.same("load() again", x.load(), 0);
        checks.same("sizes", Calls.sizes(x), "1 0 0 2");
        Calls.type(x, "S\tb\tCC\n");
        checks.same("the graph is what it was", Calls.sizes(x), "1 0 0 2");
        checks.same("load() of both lines", x.load(), 0);
        checks.same("sizes of both lines", Calls.sizes(x), "2 0 0 6");
        Calls.type(x, "S\ta\tG\n");
        checks.same("load() of a third line", x.load(), -3);
    }

    private static void badTextStays() {
        WalkAligner x = Calls.typed("S\ta\tA\nS\tb");
        checks.same("load()", x.load(), -2);
        checks.same("load() again", x.load(), -2);
        Calls.type(x, "\tCC\n");
        checks.same("load() of the line when it is whole", x.load(), 0);
        checks.same("sizes", Calls.sizes(x), "2 0 0 6");
    }

    private static void goodTextIsTheGraph() {
        WalkAligner x = Calls.typed(Calls.CHAIN);
        checks.same("no segments before", x.size(0), 0);
        checks.same("load()", x.load(), 0);
        checks.same("sizes", Calls.sizes(x), "3 2 1 12");
        checks.same("bases", Calls.bases(x), "ACGCGTTAGGCC");
        checks.same("followings", Calls.followings(x), "0-1 1-2 2-6 3-4 4-5 6-10 7-3 8-9 9-7 10-11");
    }

    private static void emptyTextIsTheGraph() {
        WalkAligner x = Calls.aligned(Calls.LOOP, "A");
        x.clear();
        checks.same("load()", x.load(), 0);
        checks.same("sizes", Calls.sizes(x), "0 0 0 0");
        checks.same("base(0)", x.base(0), Calls.BAD);
        checks.no("follows(0, 0)", x.follows(0, 0));
        checks.same("align()", x.align(), Calls.NONE);
        Calls.checkNoResult(checks, "without segments", x);
    }

    private static void nothingIsLeftOfTheFormerGraph() {
        WalkAligner x = Calls.loaded(Calls.FULL);
        Calls.load(x, "S\ta\tC\nS\tb\tG\n");
        checks.same("sizes", Calls.sizes(x), "2 0 0 4");
        checks.same("bases", Calls.bases(x), "CGGC");
        checks.same("followings", Calls.followings(x), "");
        x.clear();
        Calls.type(x, "S\ta\tC\nP\tp\ta+,a+\t*\n");
        checks.same("load() of a path over a former link", x.load(), -2);
        Calls.load(x, "S\ta\tC\nP\tp\ta-\t*\n");
        checks.same("a former path's name is free", Calls.sizes(x), "1 0 1 2");
    }

    private static void formerLinksDoNotCount() {
        String segments = "S\ta\tACGG\nS\tb\tT\n";
        String links = "L\ta\t+\ta\t+\t0M\nL\ta\t+\ta\t-\t0M\nL\ta\t+\tb\t+\t0M\nL\ta\t+\tb\t-\t0M\n";
        WalkAligner x = Calls.ready(segments + links, "ACGG");
        checks.same("least(4, 9) with a link", x.least(4, 9), 1);
        checks.same("load() again", x.load(), 0);
        Calls.load(x, segments);
        checks.same("least(4, 9) without links", x.least(4, 9), 3);
        checks.same("least(4, 8) without links", x.least(4, 8), 4);
        checks.same("least(4, 3) without links", x.least(4, 3), 0);
        Calls.load(x, segments);
        checks.same("least(4, 9) again", x.least(4, 9), 3);
    }

    private static void nothingIsLeftOfABadText() {
        WalkAligner x = Calls.typed("S\ta\tAC\nS\tb\tC\nL\ta\t+\tb\t+\t0M\nP\tp\ta+\t*\n?\n");
        checks.same("load()", x.load(), -5);
        checks.same("sizes behind it", Calls.sizes(x), "0 0 0 0");
        Calls.load(x, "S\ta\tG\nS\tc\tG\n");
        checks.same("sizes of the next text", Calls.sizes(x), "2 0 0 4");
        checks.same("followings of the next text", Calls.followings(x), "");
        Calls.load(x, "S\ta\tG\nS\tb\tG\nL\ta\t+\tb\t+\t0M\nP\tp\ta+,b+\t*\n");
        checks.same("its names, links and paths are free", Calls.sizes(x), "2 1 1 4");
    }

    private static void thereIsNoResult() {
        WalkAligner x = Calls.aligned(Calls.LOOP, "AA");
        checks.same("load() of the same text", x.load(), 0);
        Calls.checkNoResult(checks, "behind the same text", x);
        checks.same("align()", x.align(), 0);
        checks.same("walk", Calls.walk(x), "0 0");
        Calls.load(x, Calls.CHAIN);
        Calls.checkNoResult(checks, "behind another text", x);
    }

    private static void numberOfTheLine() {
        checks.same("line 1", Calls.typed("?\n").load(), -1);
        checks.same("line 2", Calls.typed("H\n?\n").load(), -2);
        checks.same("line 2 of 3", Calls.typed("S\ta\tA\n?\nH\n").load(), -2);
        checks.same("line 3, H lines counted", Calls.typed("H\nH\n?\n").load(), -3);
        checks.same("line 10", Calls.typed("H\n".repeat(9) + "?\n").load(), -10);
        checks.same("line 8 behind each kind of line", Calls.typed(Calls.CHAIN + "\n").load(), -8);
    }

    private static void firstOfSeveralLines() {
        checks.same("lines 2 and 3", Calls.typed("H\n?\n?\nH\n").load(), -2);
        checks.same("lines 1 and 3", Calls.typed("S\nH\n?").load(), -1);
        checks.same("lines 3 and 4 by their names", Calls.typed("S\ta\tA\nS\tb\tA\nS\tb\tA\nS\ta\tA\n").load(), -3);
        checks.same("line 2 by what stands too late, line 4 by its form",
                Calls.typed("S\ta\tA\nP\tp\tb+\t*\nS\tb\tA\n?\n").load(), -2);
    }

    private static void numberOfTheLastLine() {
        checks.same("200 good lines", Calls.typed("H\n".repeat(200)).load(), 0);
        checks.same("line 200 with nothing in it", Calls.typed("H\n".repeat(199) + "\n").load(), -200);
        checks.same("line 200 as the last two characters", Calls.typed("H\n".repeat(199) + "?\n").load(), -200);
        checks.same("line 200, not ended", Calls.typed("H\n".repeat(199) + "HH").load(), -200);
        checks.same("line 1 of 400", Calls.typed("\n".repeat(400)).load(), -1);
    }

    private static void lineThatIsNotEnded() {
        String lines = "S\ta\tA\nL\ta\t+\ta\t+\t0M\n";
        String[] notEnded = {"H", "H ", "S\tb\tA", "L\ta\t+\ta\t-\t0M", "P\tp\ta+\t*"};
        for (String line : notEnded) {
            WalkAligner x = Calls.typed(lines + line);
            checks.same(line, x.load(), -3);
            checks.yes("its end", x.type('\n'));
            checks.same(line + ", ended", x.load(), 0);
        }
        checks.same("the only line", Calls.typed("H").load(), -1);
        checks.same("the only line, of 400 characters", Calls.typed("H".repeat(400)).load(), -1);
        checks.same("a line of one character that no line begins with", Calls.typed("H\n?").load(), -2);
    }

    private static void loadInVain(WalkAligner x) {
        x.clear();
        Calls.type(x, "S\tx\tGG\nS\ty\tGG\nL\tx\t+\ty\t+\t0M\nP\tp\ty-\t*\n?\n");
        checks.same("load()", x.load(), -5);
    }

    private static void graphStays() {
        WalkAligner x = Calls.loaded(Calls.CHAIN);
        loadInVain(x);
        checks.same("sizes", Calls.sizes(x), "3 2 1 12");
        checks.same("bases", Calls.bases(x), "ACGCGTTAGGCC");
        checks.same("followings", Calls.followings(x), "0-1 1-2 2-6 3-4 4-5 6-10 7-3 8-9 9-7 10-11");
        Calls.read(x, "CGTCC");
        checks.same("align()", x.align(), 0);
        checks.yes("lies(0)", x.lies(0));
        x.tell();
        checks.same("names in the record", Calls.record(x), ">a>b<c\t1\t0\t0\t5=");
    }

    private static void resultStays() {
        WalkAligner x = Calls.aligned(Calls.CHAIN, "CGTCC");
        loadInVain(x);
        checks.same("walk", Calls.walk(x), "1 2 6 10 11");
        checks.same("edits", Calls.edits(x), "=====");
        checks.yes("lies(0)", x.lies(0));
        checks.same("tell()", x.tell(), 15);
        checks.same("record", Calls.record(x), ">a>b<c\t1\t0\t0\t5=");
    }

    private static void readStays() {
        WalkAligner x = Calls.ready(Calls.CHAIN, "CGTCC");
        loadInVain(x);
        checks.same("least(5, 11) behind a text that is not good", x.least(5, 11), 0);
        Calls.load(x, "S\tz\tCC\n");
        checks.same("least(5, 1) behind a good text", x.least(5, 1), 3);
        checks.same("least(6, 1) behind a good text", x.least(6, 1), Calls.BAD);
    }

    private static void recordStays() {
        WalkAligner x = Calls.aligned(Calls.CHAIN, "CGTCC");
        x.tell();
        loadInVain(x);
        checks.same("behind a text that is not good", Calls.record(x), ">a>b<c\t1\t0\t0\t5=");
        Calls.load(x, "S\tz\tCC\n");
        checks.same("behind a good text", Calls.record(x), ">a>b<c\t1\t0\t0\t5=");
    }
}
