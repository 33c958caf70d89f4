/** Promise 11: least. */
public final class Promise11LeastTest {
    private static final Checks checks = new Checks("Promise 11");

    public static void main(String[] args) {
        checks.test("The least cost of an alignment", Promise11LeastTest::leastCost);
        checks.test("where inserts may stand anywhere", Promise11LeastTest::insertsAnywhere);
        checks.test("to any walk whose last place is v", Promise11LeastTest::anyWalk);
        checks.test("to any walk round a circle, with deletes", Promise11LeastTest::roundACircle);
        checks.test("to any walk against the order of places, with deletes", Promise11LeastTest::againstTheOrder);
        checks.test("of no bases: a walk has one place at least", Promise11LeastTest::noBases);
        checks.test("of 12 bases", Promise11LeastTest::allBases);
        checks.test("of the read, as it is now", Promise11LeastTest::asItIsNow);
        checks.test("BAD when i is not 0 .. the number of its bases", Promise11LeastTest::wrongNumberOfBases);
        checks.test("BAD when there is no place v", Promise11LeastTest::noSuchPlace);
        checks.test("BAD when there is no place at all", Promise11LeastTest::noPlaceAtAll);
        checks.test("The result stays", Promise11LeastTest::resultStays);
        checks.end();
    }

    private static void leastCost() {
        WalkAligner x = Calls.ready(Calls.CHAIN, "CGT");
        // By hand: C, CG and CGT against the walks that end in a+ 0, 1, 2; a- 3, 4, 5; b+ 6; b- 7.
        int[][] due = {{1, 0, 1, 0, 1, 1, 1, 1}, {2, 1, 0, 1, 0, 1, 1, 2}, {3, 2, 1, 2, 1, 0, 0, 2}};
        for (int i = 1; i <= 3; i++) {
            for (int v = 0; v < 8; v++) {
                checks.same("least(" + i + ", " + v + ")", x.least(i, v), due[i - 1][v]);
            }
        }
    }

    private static void insertsAnywhere() {
        checks.same("before", Calls.ready("S\ta\tA\n", "CCA").least(3, 0), 2);
        checks.same("behind", Calls.ready("S\ta\tA\n", "ACC").least(3, 0), 2);
        checks.same("between", Calls.ready("S\ta\tAC\n", "AGGC").least(4, 1), 2);
        checks.same("before, between and behind", Calls.ready("S\ta\tAC\n", "GAGCG").least(5, 1), 3);
    }

    private static void anyWalk() {
        WalkAligner x = Calls.ready("S\ta\tACG\nS\tb\tTT\nS\tc\tAAA\nL\ta\t+\tc\t+\t0M\nL\tb\t+\tc\t+\t0M\n", "CGA");
        checks.same("from the middle of a side into another one", x.least(3, 10), 0);
        checks.same("one place of it deleted", x.least(3, 11), 1);
        checks.same("two places of it deleted", x.least(3, 12), 2);
        checks.same("a place that only bad walks end in", x.least(3, 0), 2);
    }

    private static void roundACircle() {
        WalkAligner x = Calls.ready("S\ta\tACGT\nL\ta\t+\ta\t+\t0M\n", "TA");
        checks.same("no delete", x.least(2, 0), 0);
        checks.same("a delete behind", x.least(2, 1), 1);
        checks.same("two deletes behind", x.least(2, 2), 2);
        checks.same("an insert", x.least(2, 3), 1);
        WalkAligner y = Calls.ready("S\ta\tACG\nL\ta\t+\ta\t+\t0M\n", "ACACAC");
        checks.same("two deletes on the way", y.least(6, 1), 2);
    }

    private static void againstTheOrder() {
        // Each segment lies behind one with a greater number: c+ 4 .. 7, then b+ 2, then a+ 0.
        String row = "S\ta\tC\nS\tb\tC\nS\tc\tACGT\nL\tc\t+\tb\t+\t0M\nL\tb\t+\ta\t+\t0M\n";
        WalkAligner x = Calls.ready(row, "ACGT");
        checks.same("no delete", x.least(4, 7), 0);
        checks.same("one delete", x.least(4, 2), 1);
        checks.same("two deletes", x.least(4, 0), 2);
    }

    private static void noBases() {
        WalkAligner x = Calls.loaded(Calls.CHAIN);
        for (int v = 0; v < 12; v++) {
            checks.same("least(0, " + v + ") of an empty read", x.least(0, v), 1);
        }
        Calls.read(x, "CGTCC");
        for (int v = 0; v < 12; v++) {
            checks.same("least(0, " + v + ")", x.least(0, v), 1);
        }
        checks.same("least(0, 0) in a circle", Calls.ready(Calls.LOOP, "A").least(0, 0), 1);
    }

    private static void allBases() {
        WalkAligner x = Calls.ready(Calls.FULL, "TCGAACGTAAAA");
        checks.same("least(12, 11)", x.least(12, 11), 0);
        checks.same("least(4, 59)", x.least(4, 59), 0);
        checks.same("least(4, 63)", x.least(4, 63), 0);
        checks.same("least(13, 11)", x.least(13, 11), Calls.BAD);
        WalkAligner y = Calls.ready("S\ta\tA\n", "CCCCCCCCCCCC");
        checks.same("least(12, 0), nothing the same", y.least(12, 0), 12);
        checks.same("least(12, 1), nothing the same", y.least(12, 1), 12);
    }

    private static void asItIsNow() {
        WalkAligner x = Calls.aligned("S\ta\tACGT\n", "AC");
        Calls.read(x, "G");
        checks.same("least(3, 2) behind read()", x.least(3, 2), 0);
        x.drop();
        checks.same("least(1, 0) behind drop()", x.least(1, 0), Calls.BAD);
        Calls.read(x, "T");
        checks.same("least(1, 3) behind another base", x.least(1, 3), 0);
        checks.same("least(1, 0) behind another base", x.least(1, 0), 1);
        checks.same("the result is still another one's", Calls.walk(x), "0 1");
    }

    private static void wrongNumberOfBases() {
        WalkAligner x = Calls.ready(Calls.CHAIN, "CGT");
        checks.same("least(0, 6)", x.least(0, 6), 1);
        checks.same("least(3, 6)", x.least(3, 6), 0);
        checks.same("least(4, 6)", x.least(4, 6), Calls.BAD);
        checks.same("least(12, 6)", x.least(12, 6), Calls.BAD);
        checks.same("least(13, 6)", x.least(13, 6), Calls.BAD);
        checks.same("least(-1, 6)", x.least(-1, 6), Calls.BAD);
        for (int far : Calls.far()) {
            checks.same("least(" + far + ", 6)", x.least(far, 6), Calls.BAD);
        }
        checks.same("least(1, 6) of an empty read", Calls.loaded(Calls.CHAIN).least(1, 6), Calls.BAD);
    }

    private static void noSuchPlace() {
        WalkAligner x = Calls.ready(Calls.CHAIN, "CGT");
        checks.same("least(1, 11)", x.least(1, 11), 0);
        checks.same("least(1, 12)", x.least(1, 12), Calls.BAD);
        checks.same("least(0, 12)", x.least(0, 12), Calls.BAD);
        checks.same("least(1, -1)", x.least(1, -1), Calls.BAD);
        checks.same("least(0, -1)", x.least(0, -1), Calls.BAD);
        checks.same("least(4, 12)", x.least(4, 12), Calls.BAD);
        for (int far : Calls.far()) {
            checks.same("least(1, " + far + ")", x.least(1, far), Calls.BAD);
            checks.same("least(" + far + ", " + far + ")", x.least(far, far), Calls.BAD);
        }
        WalkAligner full = Calls.ready(Calls.FULL, "A");
        checks.same("least(1, 63)", full.least(1, 63), 0);
        checks.same("least(1, 64)", full.least(1, 64), Calls.BAD);
        checks.same("least(0, 64)", full.least(0, 64), Calls.BAD);
    }

    private static void noPlaceAtAll() {
        WalkAligner x = new WalkAligner();
        checks.same("least(0, 0)", x.least(0, 0), Calls.BAD);
        Calls.read(x, "A");
        checks.same("least(0, 0) with a base", x.least(0, 0), Calls.BAD);
        checks.same("least(1, 0) with a base", x.least(1, 0), Calls.BAD);
        Calls.load(x, Calls.LOOP);
        checks.same("least(1, 0) with a graph", x.least(1, 0), 0);
        Calls.load(x, "H\n");
        checks.same("least(1, 0) behind a graph", x.least(1, 0), Calls.BAD);
    }

    private static void resultStays() {
        WalkAligner x = Calls.ready(Calls.CHAIN, "CGTCC");
        x.least(5, 11);
        Calls.checkNoResult(checks, "behind least() alone", x);
        x.align();
        x.drop();
        Calls.read(x, "AA");
        x.least(2, 3);
        x.least(3, 0);
        checks.same("walk", Calls.walk(x), "1 2 6 10 11");
        checks.same("edits", Calls.edits(x), "=====");
        checks.yes("lies(0)", x.lies(0));
        checks.same("tell()", x.tell(), 15);
        checks.same("record", Calls.record(x), ">a>b<c\t1\t0\t0\t5=");
    }
}
