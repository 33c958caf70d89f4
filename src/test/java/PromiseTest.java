/** Each promise of the document by hand: ordinary inputs, the edges that it names, wrong inputs. */
public final class PromiseTest {
    private static final int BAD = -1;
    private static final int NONE = -2;
    private static final int[] FAR = {Integer.MIN_VALUE, -2, -1, 1000, Integer.MAX_VALUE};

    // Places: a+ 0 A, 1 C, 2 G; a- 3 C, 4 G, 5 T; b+ 6 T; b- 7 A; c+ 8 G, 9 G; c- 10 C, 11 C.
    private static final String CHAIN = "H made by hand\nS\ta\tACG\nS\tb\tT\nS\tc\tGG\n"
            + "L\ta\t+\tb\t+\t0M\nL\tb\t+\tc\t-\t0M\nP\tp\ta+,b+,c-\t*\n";
    private static final String LOOP = "S\tx\tA\nL\tx\t+\tx\t+\t0M\nP\tq\tx+,x+,x+\t*\n";

    private static final Checks checks = new Checks();

    public static void main(String[] args) {
        newObject();
        typing();
        typingUpToTheLimit();
        clearing();
        loadingGoodTexts();
        loadingBadTexts();
        loadingSpoiltLines();
        loadingUpToTheLimits();
        loadingAndTheRest();
        loadingAgainAndAgain();
        sizes();
        bases();
        following();
        reading();
        dropping();
        aligning();
        choosingAmongEquals();
        leastCosts();
        walksAndEdits();
        lying();
        lyingInOrder();
        telling();
        letters();
        checks.end();
    }

    private static void newObject() {
        WalkAligner x = new WalkAligner();
        for (int what = 0; what < 4; what++) {
            checks.same("1: size(" + what + ")", x.size(what), 0);
        }
        checks.same("1: base", x.base(0), BAD);
        checks.no("1: follows", x.follows(0, 0));
        checks.same("1: align", x.align(), NONE);
        checks.same("1: least", x.least(0, 0), BAD);
        noResult("1", x);
        checks.same("1: letter", x.letter(0), BAD);
        checks.same("1: the empty text is good", x.load(), 0);
        Checks.type(x, CHAIN);
        checks.same("1: load", x.load(), 0);
        checks.same("1: the read is empty", x.least(1, 0), BAD);
        checks.same("1: the read is empty, so that a place is deleted", x.align(), 1);
    }

    private static void noResult(String promise, WalkAligner x) {
        checks.same(promise + ": walk without a result", x.walk(0), BAD);
        checks.same(promise + ": edit without a result", x.edit(0), BAD);
        checks.no(promise + ": lies without a result", x.lies(0));
        checks.same(promise + ": tell without a result", x.tell(), BAD);
    }

    private static void typing() {
        for (int code = 0; code <= 0xFFFF; code = code < 400 ? code + 1 : code + 997) {
            boolean due = code == 9 || code == 10 || (code >= 32 && code <= 126);
            WalkAligner x = new WalkAligner();
            checks.same("2: type " + code, x.type((char) code) ? 1 : 0, due ? 1 : 0);
            checks.same("2: load behind type " + code, x.load(), due ? -1 : 0);
        }
        checks.no("2: type 65535", new WalkAligner().type('\uFFFF'));
        WalkAligner x = Checks.typed("S\ta\tA");
        checks.no("2: type 13", x.type('\r'));
        checks.yes("2: type 10", x.type('\n'));
        checks.same("2: a refused character is not there", x.load(), 0);
    }

    private static void typingUpToTheLimit() {
        WalkAligner x = Checks.typed("H" + "~".repeat(398));
        checks.same("2: not ended yet", x.load(), -1);
        checks.yes("2: the 400th", x.type('\n'));
        checks.no("2: the 401st", x.type('x'));
        checks.no("2: the 401st, a line end", x.type('\n'));
        checks.same("2: the text of 400", x.load(), 0);
    }

    private static void clearing() {
        WalkAligner x = Checks.typed("nonsense");
        checks.same("3: load before", x.load(), -1);
        x.clear();
        checks.same("3: load behind", x.load(), 0);
        x.clear();
        checks.same("3: load behind a second one", x.load(), 0);
        Checks.type(x, "H" + " ".repeat(399));
        checks.no("3: 400 are there again", x.type('x'));

        WalkAligner y = Checks.aligned(CHAIN, "CGTCC");
        y.tell();
        y.clear();
        checks.same("3: the graph stays", y.size(3), 12);
        checks.same("3: the result stays", Checks.walk(y), "1 2 6 10 11");
        checks.same("3: the record stays", y.letter(0), '>');
        checks.same("3: the read stays", y.least(5, 11), 0);
    }

    private static void loadingGoodTexts() {
        good("", "0 0 0 0");
        good("H\n", "0 0 0 0");
        good("H\nH\n", "0 0 0 0");
        good("HS\tL\t~ ,\n", "0 0 0 0");
        good("S\ta\tA\n", "1 0 0 2");
        good("S\tabc\tACGT\n", "1 0 0 8");
        good("S\t0z9\tT\nH\nS\taz\tGG\n", "2 0 0 6");
        good("S\ta\tA\nS\taa\tA\nS\taaa\tA\nS\t0\tA\nS\t00\tA\n", "5 0 0 10");
        good("S\ta\tA\nL\ta\t+\ta\t+\t0M\n", "1 1 0 2");
        good("S\ta\tA\nL\ta\t+\ta\t-\t0M\nL\ta\t-\ta\t+\t0M\nL\ta\t+\ta\t+\t0M\n", "1 3 0 2");
        good("S\ta\tA\nP\ta\ta-\t*\n", "1 0 1 2");
        good("S\ta\tA\nP\tp\ta+\t*\nP\tpp\ta+\t*\n", "1 0 2 2");
        good("S\ta\tA\nS\tb\tC\nL\ta\t+\tb\t-\t0M\nP\tp\tb+,a-\t*\nP\tq\ta+,b-\t*\n", "2 1 2 4");
        good("S\ta1\tA\nS\tb2c\tC\nL\tb2c\t-\ta1\t-\t0M\nP\t123\ta1+,b2c+\t*\n", "2 1 1 4");
    }

    private static void good(String text, String sizes) {
        WalkAligner x = Checks.typed(text);
        checks.same("4: load " + shown(text), x.load(), 0);
        String got = x.size(0) + " " + x.size(1) + " " + x.size(2) + " " + x.size(3);
        checks.same("4: sizes of " + shown(text), got, sizes);
    }

    private static void loadingBadTexts() {
        bad("H", 1);
        bad("\n", 1);
        bad("H\n\n", 2);
        bad("h\n", 1);
        bad(" H\n", 1);
        bad("X\n", 1);
        bad("S\ta\tA\nH", 2);
        bad("S\ta\tA\nS\ta\tC\n", 2);
        bad("S\ta\tA\nS\tb\tA\nH\nS\ta\tA\nS\tb\tA\n", 4);
        bad("S\ta\tA\nH\n?\n?\n", 3);
        bad("L\ta\t+\ta\t+\t0M\nS\ta\tA\n", 1);
        bad("S\ta\tA\nL\ta\t+\tb\t+\t0M\nS\tb\tA\n", 2);
        bad("P\tp\ta+\t*\nS\ta\tA\n", 1);
        bad("S\ta\tA\nP\tp\ta+,b+\t*\n", 2);
        bad("S\ta\tA\nS\tb\tA\nP\tp\ta+,b+\t*\nL\ta\t+\tb\t+\t0M\n", 3);
        bad("S\ta\tA\nS\tb\tA\nL\ta\t+\tb\t+\t0M\nP\tp\tb+,a+\t*\n", 4);
        bad("S\ta\tA\nS\tb\tA\nL\ta\t+\tb\t+\t0M\nP\tp\ta-,b-\t*\n", 4);
        bad("S\ta\tA\nS\tb\tA\nL\ta\t+\tb\t+\t0M\nP\tp\ta+,b+,a+\t*\n", 4);
        bad("S\ta\tA\nS\tb\tA\nL\ta\t+\tb\t+\t0M\nP\tp\ta+,b-\t*\n", 4);
        bad("S\ta\tA\nP\tp\ta+,a+\t*\n", 2);
        bad("S\ta\tA\nP\tp\ta+\t*\nP\tp\ta-\t*\n", 3);
        bad("S\ta\tA\nL\ta\t+\ta\t+\t0M\nL\ta\t+\ta\t+\t0M\n", 3);
        bad("S\ta\tA\nL\ta\t+\ta\t+\t0M\nL\ta\t-\ta\t-\t0M\n", 3);
        bad("S\ta\tA\nL\ta\t+\ta\t-\t0M\nL\ta\t+\ta\t-\t0M\n", 3);
        bad("S\ta\tA\nS\tb\tA\nL\ta\t+\tb\t-\t0M\nL\tb\t+\ta\t-\t0M\n", 4);
        bad("S\ta\tA\nS\tb\tA\nL\tb\t-\ta\t+\t0M\nH\nL\ta\t-\tb\t+\t0M\n", 5);
    }

    private static void bad(String text, int line) {
        WalkAligner x = Checks.loaded(LOOP);
        x.clear();
        Checks.type(x, text);
        checks.same("4: load " + shown(text), x.load(), -line);
        checks.same("4: the graph stays behind " + shown(text), x.size(2), 1);
        checks.yes("4: its followings stay behind " + shown(text), x.follows(0, 0));
    }

    private static void loadingSpoiltLines() {
        String[] segments = {"S", "S\n", "S\t", "S\tb\n", "S\tb\t\n", "S\t\tA\n", "S\tb\tA", "S\tb\tACGTA\n",
            "S\tb\tN\n", "S\tb\ta\n", "S\tb\tAC \n", "S\tb\tA\t\n", "S\tb A\n", "S b\tA\n", "S\tb\t A\n", "S\tB\tA\n",
            "S\tabcd\tA\n", "S\tb-\tA\n", "S\t`\tA\n", "S\t{\tA\n", "S\t/\tA\n", "S\t:\tA\n", "SS\tb\tA\n", "s\tb\tA\n",
            "S\tb\t*\n", "S\tb\tA\t*\n", "S\tb\tU\n", "S\tb\tB\n"};
        String[] links = {"L", "L\n", "L\ta\n", "L\ta\t+\ta\t-\t0M", "L\ta\t+\ta\t-\t0\n", "L\ta\t+\ta\t-\tM\n",
            "L\ta\t+\ta\t-\t*\n", "L\ta\t+\ta\t-\t0m\n", "L\ta\t+\ta\t-\t1M\n", "L\ta\t+\ta\t-\t00M\n",
            "L\ta\t+\ta\t-\t0M\t\n", "L\ta\t+\ta\t-\t0M \n", "L\ta\t+\ta\t-\n", "L\ta\t+\ta\t-\t\n", "L\ta+\ta-\t0M\n",
            "L\ta\t\ta\t-\t0M\n", "L\ta\t+\ta\t\t0M\n", "L\ta\t++\ta\t-\t0M\n", "L\ta\t+\ta\t>\t0M\n",
            "L\ta\t*\ta\t-\t0M\n", "L\t\t+\ta\t-\t0M\n", "L\ta\t+\t\t-\t0M\n", "L\tb\t+\ta\t-\t0M\n",
            "L\ta\t+\tb\t-\t0M\n", "L\taa\t+\ta\t-\t0M\n", "L\taaaa\t+\ta\t-\t0M\n", "La\t+\ta\t-\t0M\n", "L\ta\t+\ta\t- 0M\n"};
        String[] paths = {"P", "P\n", "P\tp\n", "P\tp\ta+\t*", "P\tp\ta+\n", "P\tp\ta+\t\n", "P\tp\t\t*\n", "P\tp\t*\n",
            "P\t\ta+\t*\n", "P\tpqrs\ta+\t*\n", "P\tP\ta+\t*\n", "P\tp\ta\t*\n", "P\tp\t+\t*\n", "P\tp\ta+,\t*\n",
            "P\tp\t,a+\t*\n", "P\tp\ta+,,a-\t*\n", "P\tp\ta+a-\t*\n", "P\tp\ta+\t**\n", "P\tp\ta+\t*\t\n", "P\tp\ta+\t0M\n",
            "P\tp\ta+ *\n", "P\tp\tb+\t*\n", "P\tp\ta*\t*\n", "P\tp\ta\t+\t*\n", "Pp\ta+\t*\n", "P\tp\ta+;a-\t*\n"};
        for (String[] kind : new String[][] {segments, links, paths}) {
            for (String line : kind) {
                bad("S\ta\tA\n" + line, 2);
            }
        }
        // The same lines, whole, are good: it is their spoiling that is told.
        good("S\ta\tA\nS\tb\tA\n", "2 0 0 4");
        good("S\ta\tA\nL\ta\t+\ta\t-\t0M\n", "1 1 0 2");
        good("S\ta\tA\nP\tp\ta+\t*\n", "1 0 1 2");
    }

    private static void loadingUpToTheLimits() {
        String segments = "";
        for (int k = 0; k < 8; k++) {
            segments += "S\t" + k + "\tACGT\n";
        }
        good(segments, "8 0 0 64");
        bad(segments + "S\t8\tA\n", 9);

        String links = "";
        String[] sides = {"a\t+", "a\t-", "b\t+", "b\t-", "c\t+", "c\t-"};
        int count = 0;
        for (int from = 0; from < 6; from++) {
            for (int to = 0; to < 6 && count < 13; to++) {
                boolean firstOfItsTwins = from * 6 + to <= (to ^ 1) * 6 + (from ^ 1);
                if (firstOfItsTwins) {
                    links += "L\t" + sides[from] + "\t" + sides[to] + "\t0M\n";
                    count++;
                }
            }
        }
        String three = "S\ta\tA\nS\tb\tC\nS\tc\tG\n";
        String twelve = links.substring(0, 12 * 13);
        good(three + twelve, "3 12 0 6");
        bad(three + links, 16);

        String paths = "S\ta\tA\n";
        for (int k = 0; k < 4; k++) {
            paths += "P\t" + k + "\ta+\t*\n";
        }
        good(paths, "1 0 4 2");
        bad(paths + "P\t4\ta+\t*\n", 6);

        String loop = "S\ta\tA\nL\ta\t+\ta\t+\t0M\n";
        good(loop + "P\tp\ta+" + ",a+".repeat(7) + "\t*\n", "1 1 1 2");
        bad(loop + "P\tp\ta+" + ",a+".repeat(8) + "\t*\n", 3);
        bad(loop + "P\tp\ta+" + ",a+".repeat(7) + ",\t*\n", 3);
        good(loop + ("P\t#\ta-" + ",a-".repeat(7) + "\t*\n").replace("#", "0")
                + ("P\t#\ta-" + ",a-".repeat(7) + "\t*\n").replace("#", "1"), "1 1 2 2");
    }

    private static void loadingAndTheRest() {
        WalkAligner x = Checks.aligned(CHAIN, "CGTCC");
        x.tell();
        checks.yes("4: the text stays", x.type('?'));
        checks.same("4: a line that is not ended", x.load(), -8);
        checks.same("4: the result stays if not good", Checks.walk(x), "1 2 6 10 11");
        checks.yes("4: the path of the result stays", x.lies(0));
        x.clear();
        Checks.type(x, "S\tz\tCC\n");
        checks.same("4: load another graph", x.load(), 0);
        noResult("4: good", x);
        checks.same("4: the record stays", Checks.record(x), ">a>b<c\t1\t0\t0\t5=");
        checks.same("4: the read stays", x.least(5, 1), 3);
        checks.same("4: no links are left", x.size(1), 0);
        checks.no("4: no followings are left", x.follows(1, 2));
        checks.same("4: load again", x.load(), 0);
        checks.same("4: align to the other graph", x.align(), 3);
        checks.same("4: load takes the result away", x.load(), 0);
        noResult("4: again", x);
        x.clear();
        checks.same("4: load the empty text", x.load(), 0);
        checks.same("4: no segments", x.align(), NONE);
    }

    private static void loadingAgainAndAgain() {
        WalkAligner x = new WalkAligner();
        String[] texts = {LOOP, "S\tx\tA\n", "S\tx\tA\n", "S\tx\tA\nL\tx\t+\tx\t+\t0M\n?\n", "S\tx\tA\nP\tq\tx+,x+\t*\n",
            "S\tx\tA\nP\tq\tx+\t*\n", LOOP};
        int[] answers = {0, 0, 0, -3, -2, 0, 0};
        int[] loops = {1, 0, 0, 0, 0, 0, 1};
        for (int k = 0; k < texts.length; k++) {
            x.clear();
            Checks.type(x, texts[k]);
            checks.same("4: text " + k + " after others", x.load(), answers[k]);
            checks.same("4: only the links of text " + k, x.follows(0, 0) ? 1 : 0, loops[k]);
            checks.same("4: only the places of text " + k, x.size(3), 2);
        }
    }

    private static void sizes() {
        WalkAligner x = Checks.loaded(CHAIN);
        checks.same("5: segments", x.size(0), 3);
        checks.same("5: links", x.size(1), 2);
        checks.same("5: paths", x.size(2), 1);
        checks.same("5: places", x.size(3), 12);
        checks.same("5: 4", x.size(4), BAD);
        for (int what : FAR) {
            checks.same("5: " + what, x.size(what), BAD);
        }
    }

    private static void bases() {
        WalkAligner x = Checks.loaded("S\ta\tAACG\nS\tb\tT\nS\tc\tGCA\n");
        String due = "AACG" + "CGTT" + "T" + "A" + "GCA" + "TGC";
        for (int place = 0; place < due.length(); place++) {
            checks.same("6: base " + place, x.base(place), due.charAt(place));
        }
        checks.same("6: behind the last", x.base(due.length()), BAD);
        for (int place : FAR) {
            checks.same("6: base " + place, x.base(place), BAD);
        }
    }

    private static void following() {
        followings(CHAIN, "0-1 1-2 2-6 3-4 4-5 6-10 7-3 8-9 9-7 10-11");
        followings(LOOP, "0-0 1-1");
        followings("S\ta\tAC\nL\ta\t+\ta\t-\t0M\n", "0-1 1-2 2-3");
        followings("S\ta\tAC\nL\ta\t-\ta\t+\t0M\n", "0-1 2-3 3-0");
        followings("S\ta\tAC\nL\ta\t+\ta\t+\t0M\n", "0-1 1-0 2-3 3-2");
        followings("S\ta\tA\nS\tb\tCC\nS\tc\tG\nL\ta\t+\tb\t+\t0M\nL\ta\t+\tc\t-\t0M\nL\tb\t-\tc\t+\t0M\n",
                "0-2 0-7 2-3 4-5 5-1 5-6 6-1 7-2");
        followings("S\ta\tACGT\n", "0-1 1-2 2-3 4-5 5-6 6-7");
        WalkAligner x = Checks.loaded(LOOP);
        for (int far : FAR) {
            checks.no("7: follows(0, " + far + ")", x.follows(0, far));
            checks.no("7: follows(" + far + ", 0)", x.follows(far, 0));
        }
    }

    private static void followings(String text, String due) {
        WalkAligner x = Checks.loaded(text);
        int places = x.size(3);
        String got = "";
        for (int u = 0; u <= places; u++) {
            for (int v = 0; v <= places; v++) {
                if (x.follows(u, v)) {
                    got += (got.isEmpty() ? "" : " ") + u + "-" + v;
                }
            }
        }
        checks.same("7: followings of " + shown(text), got, due);
    }

    private static void reading() {
        for (int code = 0; code < 400; code++) {
            WalkAligner x = Checks.loaded("S\ta\tA\n");
            boolean due = "ACGT".indexOf(code) >= 0;
            checks.same("8: read " + code, x.read((char) code) ? 1 : 0, due ? 1 : 0);
            checks.same("8: least behind read " + code, x.least(1, 0), due ? (code == 'A' ? 0 : 1) : BAD);
        }
        checks.no("8: read 65535", new WalkAligner().read('\uFFFF'));

        WalkAligner x = Checks.aligned(CHAIN, "CGTCC");
        Checks.read(x, "AAAAAAA");
        checks.no("8: the 13th", x.read('A'));
        checks.same("8: 12 are there", x.least(12, 0) >= 0 ? 1 : 0, 1);
        checks.same("8: no more than 12", x.least(13, 0), BAD);
        checks.same("8: the result's walk stays", Checks.walk(x), "1 2 6 10 11");
        checks.same("8: the result's edits stay", Checks.edits(x), "=====");
        checks.same("8: the result's record is the same", x.tell(), 15);
    }

    private static void dropping() {
        WalkAligner x = Checks.aligned(CHAIN, "CGTCC");
        x.drop();
        checks.same("9: the read is empty", x.least(1, 0), BAD);
        checks.same("9: least of nothing", x.least(0, 0), 1);
        checks.same("9: the result's walk stays", Checks.walk(x), "1 2 6 10 11");
        checks.same("9: the result's edits stay", Checks.edits(x), "=====");
        checks.yes("9: the result's path stays", x.lies(0));
        x.drop();
        Checks.read(x, "AAAAAAAAAAAA");
        checks.no("9: 12 go in again", x.read('A'));
    }

    private static void aligning() {
        result(CHAIN, "CGTCC", 0, "1 2 6 10 11", "=====");
        result(CHAIN, "GGACG", 0, "8 9 7 3 4", "=====");
        result(CHAIN, "", 1, "0", "D");
        result(LOOP, "", 1, "0", "D");
        result(LOOP, "AAAAAAAAAAAA", 0, "0 0 0 0 0 0 0 0 0 0 0 0", "============");
        result("S\ta\tA\n", "CCCCCCCCCCCC", 12, "0", "IIIIIIIIIIIX");
        result("S\ta\tACGT\n", "ACTT", 1, "0 1 2 3", "==X=");
        result("S\ta\tAACT\nS\tb\tGGTG\nL\ta\t+\tb\t+\t0M\n", "AACGGTG", 1, "0 1 2 3 8 9 10 11", "===D====");
        result("S\ta\tACGT\nL\ta\t+\ta\t+\t0M\n", "ACGACGACGACG", 3, "0 1 2 3 0 1 2 3 0 1 2 3 0 1 2", "===D===D===D===");
        result("S\ta\tAACT\n", "AAGCT", 1, "0 1 2 3", "==I==");
        result("S\ta\tACG\n", "AG", 1, "0", "=I");

        WalkAligner x = Checks.loaded(CHAIN);
        Checks.read(x, "CGTCC");
        noResult("10: before align", x);
        x.align();
        x.clear();
        checks.same("10: load the empty text", x.load(), 0);
        checks.same("10: NONE", x.align(), NONE);
        noResult("10: behind NONE", x);
    }

    private static void result(String text, String read, int cost, String walk, String edits) {
        WalkAligner x = Checks.loaded(text);
        Checks.read(x, read);
        checks.same("10: cost of " + read + " on " + shown(text), x.align(), cost);
        checks.same("12: walk of " + read + " on " + shown(text), Checks.walk(x), walk);
        checks.same("13: edits of " + read + " on " + shown(text), Checks.edits(x), edits);
    }

    private static void choosingAmongEquals() {
        // The least of the last places, and the least of the places before, whatever the order of links.
        String twins = "S\ta\tA\nS\tb\tA\nS\tc\tC\nL\tb\t+\tc\t+\t0M\nL\ta\t+\tc\t+\t0M\n";
        result(twins, "A", 0, "0", "=");
        result(twins, "T", 0, "1", "=");
        result(twins, "AC", 0, "0 4", "==");
        result(twins, "GT", 0, "5 1", "==");
        result("S\tc\tC\nS\ta\tG\nS\tb\tG\nS\td\tTAT\nL\tb\t+\tc\t-\t0M\nL\ta\t+\tc\t-\t0M\nL\tc\t-\td\t+\t0M\n",
                "GGTAT", 0, "2 1 6 7 8", "=====");
        // A walk begins as late as it can: inserts before it go before a longer walk of the same cost.
        result("S\ta\tAC\n", "GGC", 2, "1", "II=");
        // The place before is looked for before an insert, and the last place with the least number wins.
        result("S\ta\tACA\n", "AG", 1, "0", "=I");
        result("S\ta\tACC\n", "ACCT", 1, "0 1 2", "===I");
    }

    private static void leastCosts() {
        WalkAligner x = Checks.loaded(CHAIN);
        for (int v = 0; v < 12; v++) {
            checks.same("11: least(0, " + v + ")", x.least(0, v), 1);
        }
        Checks.read(x, "CGT");
        // By hand: C, CG and CGT against the walks that end in a+ 0, 1, 2; a- 3, 4, 5; b+ 6; b- 7.
        int[][] due = {{1, 0, 1, 0, 1, 1, 1, 1}, {2, 1, 0, 1, 0, 1, 1, 2}, {3, 2, 1, 2, 1, 0, 0, 2}};
        for (int i = 1; i <= 3; i++) {
            for (int v = 0; v < 8; v++) {
                checks.same("11: least(" + i + ", " + v + ")", x.least(i, v), due[i - 1][v]);
            }
        }
        checks.same("11: i is too great", x.least(4, 0), BAD);
        checks.same("11: i is too small", x.least(-1, 0), BAD);
        checks.same("11: v is too great", x.least(0, 12), BAD);
        checks.same("11: v is too small", x.least(0, -1), BAD);
        for (int far : FAR) {
            checks.same("11: least(" + far + ", 0)", x.least(far, 0), BAD);
            checks.same("11: least(0, " + far + ")", x.least(0, far), BAD);
        }
        noResult("11: least is no result", x);
        x.align();
        x.drop();
        Checks.read(x, "A");
        checks.same("11: the read as it is now", x.least(1, 0), 0);
        checks.same("11: the result is another one's", Checks.walk(x), "3 4 5");
    }

    private static void walksAndEdits() {
        WalkAligner x = Checks.aligned(CHAIN, "GTC");
        checks.same("12: walk", Checks.walk(x), "2 6 10");
        checks.same("12: behind the last", x.walk(3), BAD);
        checks.same("13: edits", Checks.edits(x), "===");
        checks.same("13: behind the last", x.edit(3), BAD);
        for (int far : FAR) {
            checks.same("12: walk " + far, x.walk(far), BAD);
            checks.same("13: edit " + far, x.edit(far), BAD);
        }
        Checks.read(x, "C");
        x.align();
        checks.same("12: the latest walk", Checks.walk(x), "2 6 10 11");
        x.drop();
        x.align();
        checks.same("12: the latest walk is shorter", Checks.walk(x), "0");
        checks.same("13: the latest edits are fewer", Checks.edits(x), "D");
    }

    private static void lying() {
        WalkAligner x = Checks.aligned(CHAIN, "GTC");
        checks.yes("14: forwards", x.lies(0));
        checks.no("14: no such path", x.lies(1));
        for (int far : FAR) {
            checks.no("14: path " + far, x.lies(far));
        }
        checks.yes("14: turned about", Checks.aligned(CHAIN, "GACG").lies(0));
        checks.yes("14: the middle alone", Checks.aligned(CHAIN, "").lies(0));
        checks.yes("14: the last two", Checks.aligned(CHAIN, "TCC").lies(0));

        // A walk round a loop goes through the same side again and again.
        checks.yes("14: three times round", Checks.aligned(LOOP, "AAA").lies(0));
        checks.no("14: four times round", Checks.aligned(LOOP, "AAAA").lies(0));
        checks.yes("14: three times round, turned", Checks.aligned(LOOP, "TTT").lies(0));
        checks.no("14: four times round, turned", Checks.aligned(LOOP, "TTTT").lies(0));
        String wide = "S\tx\tAC\nL\tx\t+\tx\t+\t0M\nP\tq\tx+\t*\nP\tr\tx-,x-\t*\n";
        checks.yes("14: within one side", Checks.aligned(wide, "AC").lies(0));
        checks.no("14: into the same side again", Checks.aligned(wide, "CA").lies(0));
        checks.yes("14: into the same side again, on two steps", Checks.aligned(wide, "CA").lies(1));
        checks.no("14: three times on two steps", Checks.aligned(wide, "CACA").lies(1));
    }

    private static void lyingInOrder() {
        String ring = "S\ta\tAA\nS\tb\tCC\nL\ta\t+\tb\t+\t0M\nL\tb\t+\ta\t+\t0M\n"
                + "P\tp\ta+,b+\t*\nP\tq\tb+,a+\t*\nP\tr\tb+,a+,b+\t*\nP\ts\ta-\t*\n";
        lyings(ring, "AACC", "1010");
        lyings(ring, "CCAA", "0110");
        lyings(ring, "GGTT", "1010");
        lyings(ring, "TTGG", "0110");
        lyings(ring, "CCAACC", "0010");
        lyings(ring, "AACCAA", "0000");
        lyings(ring, "AA", "1111");
        lyings(ring, "GG", "1110");
        String forks = "S\ta\tAA\nS\tb\tCC\nS\tc\tGT\nL\ta\t+\tb\t+\t0M\nL\ta\t+\tc\t+\t0M\nP\tp\ta+,b+\t*\nP\tq\ta+,c+\t*\n";
        lyings(forks, "AACC", "10");
        lyings(forks, "AAGT", "01");
        lyings(forks, "ACTT", "01");
        lyings(forks, "GGTT", "10");
    }

    private static void lyings(String text, String read, String due) {
        WalkAligner x = Checks.aligned(text, read);
        String got = "";
        for (int path = 0; path < x.size(2); path++) {
            got += x.lies(path) ? "1" : "0";
        }
        checks.same("14: lies of " + read + " on " + shown(text), got, due);
    }

    private static void telling() {
        told(CHAIN, "CGTCC", ">a>b<c\t1\t0\t0\t5=");
        told(CHAIN, "GACG", ">c<b<a\t1\t1\t0\t4=");
        told(CHAIN, "", ">a\t0\t2\t1\t1D");
        told(LOOP, "AAAAAAAAAAAA", ">x".repeat(12) + "\t0\t0\t0\t12=");
        told(LOOP, "TT", "<x<x\t0\t0\t0\t2=");
        told("S\tx\tA\n", "CCCCCCCCCCCC", ">x\t0\t0\t12\t11I1X");
        told("S\tab\tACGT\n", "CG", ">ab\t1\t1\t0\t2=");
        told("S\tabc\tACCT\n", "AC", ">abc\t0\t2\t0\t2=");
        told("S\tz09\tAAAC\n", "GT", "<z09\t0\t2\t0\t2=");
        told("S\tz09\tAAAC\nS\t0\tG\nL\tz09\t+\t0\t-\t0M\n", "ACC", ">z09<0\t2\t0\t0\t3=");
        told("S\t9\tAACT\nS\tb\tGGTG\nL\t9\t+\tb\t+\t0M\n", "AACGGTG", ">9>b\t0\t0\t1\t3=1D4=");
        told("S\ta\tAACT\n", "AAGCT", ">a\t0\t0\t1\t2=1I2=");
        told("S\ta\tACGT\n", "ACTT", ">a\t0\t0\t1\t2=1X1=");

        WalkAligner x = Checks.aligned(CHAIN, "CGTCC");
        x.drop();
        checks.same("15: the result's own, whatever the read", x.tell(), 15);
        checks.same("15: the record", Checks.record(x), ">a>b<c\t1\t0\t0\t5=");
        x.load();
        checks.same("15: no result", x.tell(), BAD);
        checks.same("15: nothing is changed", Checks.record(x), ">a>b<c\t1\t0\t0\t5=");
    }

    private static void told(String text, String read, String due) {
        WalkAligner x = Checks.aligned(text, read);
        checks.same("15: tell of " + read + " on " + shown(text), x.tell(), due.length());
        checks.same("16: record of " + read + " on " + shown(text), Checks.record(x), due);
    }

    private static void letters() {
        WalkAligner x = Checks.aligned(CHAIN, "CGTCC");
        checks.same("16: no record before tell", x.letter(0), BAD);
        x.tell();
        checks.same("16: the first", x.letter(0), '>');
        checks.same("16: a TAB", x.letter(6), 9);
        checks.same("16: the last", x.letter(14), '=');
        checks.same("16: behind the last", x.letter(15), BAD);
        for (int far : FAR) {
            checks.same("16: letter " + far, x.letter(far), BAD);
        }
        x.drop();
        x.align();
        checks.same("16: align writes no record", Checks.record(x), ">a>b<c\t1\t0\t0\t5=");
        checks.same("15: a shorter one", x.tell(), 11);
        checks.same("16: the record that was written last", Checks.record(x), ">a\t0\t2\t1\t1D");
        checks.same("16: nothing is left of the longer one", x.letter(11), BAD);
    }

    private static String shown(String text) {
        return text.replace("\t", "_").replace("\n", "/");
    }
}
