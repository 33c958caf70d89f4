/** Promise 6: base, and how places are numbered. */
public final class Promise06BaseTest {
    private static final Checks checks = new Checks("Promise 6");

    public static void main(String[] args) {
        checks.test("its bases forwards from the first to the last", Promise06BaseTest::forwards);
        checks.test("and then its bases backwards, from the last to the first", Promise06BaseTest::backwards);
        checks.test("each A being T, each C being G, and the other way round", Promise06BaseTest::eachBaseTurned);
        checks.test("for segment 0, 1, ..", Promise06BaseTest::segmentsInOrder);
        checks.test("64 places, as many as a graph may have", Promise06BaseTest::asManyAsMayBe);
        checks.test("BAD when there is no such place: too small, too large", Promise06BaseTest::noSuchPlace);
        checks.test("BAD when there is no such place: no graph", Promise06BaseTest::noPlaceAtAll);
        checks.test("BAD when there is no such place: of a former graph", Promise06BaseTest::formerPlace);
        checks.end();
    }

    private static void forwards() {
        WalkAligner x = Calls.loaded("S\ta\tACCT\n");
        checks.same("base(0)", x.base(0), 'A');
        checks.same("base(1)", x.base(1), 'C');
        checks.same("base(2)", x.base(2), 'C');
        checks.same("base(3)", x.base(3), 'T');
    }

    private static void backwards() {
        WalkAligner x = Calls.loaded("S\ta\tACCT\n");
        checks.same("base(4)", x.base(4), 'A');
        checks.same("base(5)", x.base(5), 'G');
        checks.same("base(6)", x.base(6), 'G');
        checks.same("base(7)", x.base(7), 'T');
        checks.same("base(8)", x.base(8), Calls.BAD);
    }

    private static void eachBaseTurned() {
        String bases = "ACGT";
        String turned = "TGCA";
        for (int k = 0; k < 4; k++) {
            WalkAligner x = Calls.loaded("S\ta\t" + bases.charAt(k) + "\n");
            checks.same("forwards", x.base(0), bases.charAt(k));
            checks.same("backwards", x.base(1), turned.charAt(k));
        }
    }

    private static void segmentsInOrder() {
        WalkAligner x = Calls.loaded("S\tz\tAACG\nH\nS\ta\tT\nP\tp\ta+\t*\nS\tm\tGCA\n");
        checks.same("bases", Calls.bases(x), "AACG" + "CGTT" + "T" + "A" + "GCA" + "TGC");
    }

    private static void asManyAsMayBe() {
        WalkAligner x = Calls.loaded(Calls.FULL);
        checks.same("bases", Calls.bases(x), "ACGTACGT" + "AAAATTTT" + "CCCCGGGG" + "GTGTACAC"
                + "TTAATTAA" + "CATGCATG" + "GGCATGCC" + "TCGATCGA");
        checks.same("base(63)", x.base(63), 'A');
        checks.same("base(64)", x.base(64), Calls.BAD);
    }

    private static void noSuchPlace() {
        WalkAligner x = Calls.loaded(Calls.CHAIN);
        checks.same("the last, base(11)", x.base(11), 'C');
        checks.same("base(12)", x.base(12), Calls.BAD);
        checks.same("base(13)", x.base(13), Calls.BAD);
        checks.same("base(64)", x.base(64), Calls.BAD);
        checks.same("base(-1)", x.base(-1), Calls.BAD);
        for (int place : Calls.far()) {
            checks.same("base(" + place + ")", x.base(place), Calls.BAD);
        }
    }

    private static void noPlaceAtAll() {
        WalkAligner x = new WalkAligner();
        checks.same("base(0)", x.base(0), Calls.BAD);
        for (int place : Calls.far()) {
            checks.same("base(" + place + ")", x.base(place), Calls.BAD);
        }
    }

    private static void formerPlace() {
        WalkAligner x = Calls.loaded(Calls.CHAIN);
        Calls.load(x, "S\ta\tGG\n");
        checks.same("base(3)", x.base(3), 'C');
        checks.same("base(4)", x.base(4), Calls.BAD);
        checks.same("base(11)", x.base(11), Calls.BAD);
        x.clear();
        x.load();
        checks.same("base(0)", x.base(0), Calls.BAD);
    }
}
