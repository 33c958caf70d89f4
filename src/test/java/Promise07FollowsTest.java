/** Promise 7: follows, and which place is followed by which. */
public final class Promise07FollowsTest {
    private static final Checks checks = new Checks("Promise 7");

    public static void main(String[] args) {
        checks.test("A place is FOLLOWED by the next one of the same side", Promise07FollowsTest::nextOfTheSameSide);
        checks.test("A side's last place has no next one without a link", Promise07FollowsTest::lastWithoutALink);
        checks.test("y may follow x, and x turned about may follow y turned about", Promise07FollowsTest::linkTurned);
        checks.test("the last place of a side by the first place of every side", Promise07FollowsTest::everySide);
        checks.test("a side that may follow itself", Promise07FollowsTest::sameSide);
        checks.test("a side that may follow itself turned about", Promise07FollowsTest::sideTurned);
        checks.test("sides of one place and of four", Promise07FollowsTest::shortAndLongSides);
        checks.test("as many places and links as a graph may have", Promise07FollowsTest::asManyAsMayBe);
        checks.test("false when there is no such place: too small, too large", Promise07FollowsTest::noSuchPlace);
        checks.test("false when there is no such place: no graph", Promise07FollowsTest::noPlaceAtAll);
        checks.test("false when there is no such place: of a former graph", Promise07FollowsTest::formerPlace);
        checks.end();
    }

    private static void followings(String text, String due) {
        checks.same("of " + Calls.shown(text), Calls.followings(Calls.loaded(text)), due);
    }

    private static void nextOfTheSameSide() {
        followings("S\ta\tACGT\n", "0-1 1-2 2-3 4-5 5-6 6-7");
        followings("S\ta\tAA\nS\tb\tAAA\n", "0-1 2-3 4-5 5-6 7-8 8-9");
    }

    private static void lastWithoutALink() {
        followings("S\ta\tA\n", "");
        followings("S\ta\tA\nS\tb\tC\n", "");
        followings("S\ta\tA\nS\tb\tC\nS\tc\tC\nL\ta\t+\tc\t+\t0M\n", "0-4 5-1");
    }

    private static void linkTurned() {
        followings(Calls.CHAIN, "0-1 1-2 2-6 3-4 4-5 6-10 7-3 8-9 9-7 10-11");
        // Sides: a+ 0 1, a- 2 3, b+ 4 5, b- 6 7.
        String two = "S\ta\tAC\nS\tb\tAC\n";
        followings(two + "L\ta\t+\tb\t+\t0M\n", "0-1 1-4 2-3 4-5 6-7 7-2");
        followings(two + "L\ta\t+\tb\t-\t0M\n", "0-1 1-6 2-3 4-5 5-2 6-7");
        followings(two + "L\ta\t-\tb\t+\t0M\n", "0-1 2-3 3-4 4-5 6-7 7-0");
        followings(two + "L\ta\t-\tb\t-\t0M\n", "0-1 2-3 3-6 4-5 5-0 6-7");
    }

    private static void everySide() {
        followings("S\ta\tA\nS\tb\tCC\nS\tc\tG\nL\ta\t+\tb\t+\t0M\nL\ta\t+\tc\t-\t0M\nL\tb\t-\tc\t+\t0M\n",
                "0-2 0-7 2-3 4-5 5-1 5-6 6-1 7-2");
        followings("S\ta\tA\nS\tb\tC\nL\ta\t+\ta\t+\t0M\nL\ta\t+\ta\t-\t0M\nL\ta\t+\tb\t+\t0M\nL\ta\t+\tb\t-\t0M\n",
                "0-0 0-1 0-2 0-3 1-1 2-1 3-1");
    }

    private static void sameSide() {
        followings(Calls.LOOP, "0-0 1-1");
        followings("S\ta\tAC\nL\ta\t+\ta\t+\t0M\n", "0-1 1-0 2-3 3-2");
        followings("S\ta\tAC\nL\ta\t-\ta\t-\t0M\n", "0-1 1-0 2-3 3-2");
    }

    private static void sideTurned() {
        followings("S\ta\tAC\nL\ta\t+\ta\t-\t0M\n", "0-1 1-2 2-3");
        followings("S\ta\tAC\nL\ta\t-\ta\t+\t0M\n", "0-1 2-3 3-0");
        followings("S\ta\tA\nL\ta\t-\ta\t+\t0M\n", "1-0");
    }

    private static void shortAndLongSides() {
        followings("S\ta\tA\nS\tb\tACGT\nL\ta\t+\tb\t+\t0M\nL\tb\t+\ta\t+\t0M\n",
                "0-2 1-6 2-3 3-4 4-5 5-0 6-7 7-8 8-9 9-1");
    }

    private static void asManyAsMayBe() {
        // The sides of segment k begin at 8 * k and 8 * k + 4; the last one, h-, is 60 .. 63.
        int[][] followed = {{3, 8}, {3, 0}, {7, 4}, {7, 60}, {11, 12}, {15, 4}, {23, 16}, {27, 4}, {27, 32},
            {31, 20}, {3, 28}, {51, 56}, {59, 0}, {63, 52}, {62, 63}, {60, 61}, {4, 5}};
        int[][] notFollowed = {{3, 4}, {8, 3}, {7, 0}, {7, 8}, {15, 12}, {19, 16}, {27, 28}, {59, 60}, {63, 0},
            {55, 56}, {63, 60}, {63, 63}, {63, 62}, {63, 64}, {2, 8}, {3, 9}};
        WalkAligner x = Calls.loaded(Calls.FULL);
        for (int[] pair : followed) {
            checks.yes("follows(" + pair[0] + ", " + pair[1] + ")", x.follows(pair[0], pair[1]));
        }
        for (int[] pair : notFollowed) {
            checks.no("follows(" + pair[0] + ", " + pair[1] + ")", x.follows(pair[0], pair[1]));
        }
    }

    private static void noSuchPlace() {
        WalkAligner x = Calls.loaded(Calls.LOOP);
        checks.yes("follows(1, 1)", x.follows(1, 1));
        checks.no("follows(1, 2)", x.follows(1, 2));
        checks.no("follows(2, 1)", x.follows(2, 1));
        checks.no("follows(2, 2)", x.follows(2, 2));
        checks.no("follows(-1, 0)", x.follows(-1, 0));
        checks.no("follows(0, -1)", x.follows(0, -1));
        for (int far : Calls.far()) {
            checks.no("follows(0, " + far + ")", x.follows(0, far));
            checks.no("follows(" + far + ", 0)", x.follows(far, 0));
            checks.no("follows(" + far + ", " + far + ")", x.follows(far, far));
            checks.no("follows(" + far + ", 1 more)", x.follows(far, far + 1));
        }
    }

    private static void noPlaceAtAll() {
        WalkAligner x = new WalkAligner();
        checks.no("follows(0, 0)", x.follows(0, 0));
        checks.no("follows(0, 1)", x.follows(0, 1));
        for (int far : Calls.far()) {
            checks.no("follows(" + far + ", " + far + ")", x.follows(far, far));
        }
    }

    private static void formerPlace() {
        WalkAligner x = Calls.loaded(Calls.CHAIN);
        Calls.load(x, "S\ta\tGG\n");
        checks.same("followings", Calls.followings(x), "0-1 2-3");
        checks.no("follows(4, 5)", x.follows(4, 5));
        checks.no("follows(10, 11)", x.follows(10, 11));
        x.clear();
        x.load();
        checks.no("follows(0, 1)", x.follows(0, 1));
    }
}
