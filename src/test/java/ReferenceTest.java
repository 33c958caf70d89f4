/**
 * Made-up graphs, reads and spoilt texts: every answer is compared with a slow one that is found
 * from the document's words by other means.
 */
public final class ReferenceTest {
    private static final int MOST_CALLS = 512;
    // Leaves calls enough for the longest record to be looked at letter by letter.
    private static final int MOST_TEXT = 320;
    // Long ways round, of which the reads leave out much.
    private static final String CHAIN = "S\ta\tACCA\nS\tb\tGGG\nS\tc\tTTGT\nS\td\tGGG\nS\te\tCAAC\n"
            + "L\ta\t+\tb\t+\t0M\nL\tb\t+\tc\t+\t0M\nL\tc\t+\td\t+\t0M\nL\td\t+\te\t+\t0M\n";
    private static final String RING = "S\ta\tAACC\nS\tb\tTTTT\nS\tc\tGTTG\nS\td\tTGG\nS\te\tACAC\n"
            + "L\ta\t+\tb\t+\t0M\nL\tb\t+\tc\t+\t0M\nL\tc\t+\td\t+\t0M\nL\td\t+\te\t+\t0M\nL\te\t+\ta\t+\t0M\n";
    private static final String WIDE_RING = "S\ta\tTTTT\nS\tb\tCCC\nS\tc\tCCGC\nS\td\tTATA\n"
            + "L\ta\t+\tb\t+\t0M\nL\tb\t+\tc\t+\t0M\nL\tc\t+\td\t+\t0M\nL\td\t+\ta\t+\t0M\n";
    private static final Checks checks = new Checks("Reference");
    private static final MadeUp madeUp = new MadeUp(20240607, MOST_TEXT);

    public static void main(String[] args) {
        checks.test("made-up graphs, reads and spoilt texts", ReferenceTest::compareMadeUp);
        checks.test("long ways round", ReferenceTest::compareLongWays);
        checks.end();
    }

    private static void compareMadeUp() {
        for (int round = 0; round < 400; round++) {
            String text = madeUp.text();
            compareGraph(text);
            for (int k = 0; k < 4; k++) {
                compareResult(text, madeUp.read(new Model(text)));
            }
            compareLeast(text, madeUp.read(new Model(text)));
            for (int k = 0; k < 20; k++) {
                compareLoad(madeUp.spoilt(text));
            }
        }
    }

    private static void compareLongWays() {
        compareResult(CHAIN, "ACCATTGTCAAC");
        compareResult(RING, "AACCGTTGACAC");
        compareResult(WIDE_RING, "ATTTTCGTAATT");
        compareResult(WIDE_RING, "TATATTTTCCCG");
    }

    private static void compareGraph(String text) {
        Model model = new Model(text);
        checks.same("the test's own text: " + text, model.firstBadLine, 0);
        Session session = new Session(text, "");
        for (int u = -1; u <= model.places.size(); u++) {
            checks.same("base " + u, session.next().base(u), u < 0 || u >= model.places.size() ? -1 : model.places.get(u).base());
            for (int v = -1; v <= model.places.size(); v++) {
                boolean due = u >= 0 && v >= 0 && u < model.places.size() && v < model.places.size() && model.followed(u, v);
                checks.same("follows " + u + ", " + v + " in " + text, session.next().follows(u, v) ? 1 : 0, due ? 1 : 0);
            }
        }
        int[] sizes = {model.segments.size(), model.links.size(), model.paths.size(), model.places.size()};
        for (int what = 0; what < 4; what++) {
            checks.same("size " + what, session.next().size(what), sizes[what]);
        }
    }

    private static void compareLeast(String text, String read) {
        int[][] due = new Model(text).leastCosts(read);
        Session session = new Session(text, read);
        for (int i = 0; i <= read.length(); i++) {
            for (int v = 0; v < due[i].length; v++) {
                checks.same("least " + i + ", " + v + " of " + read + " in " + text, session.next().least(i, v), due[i][v]);
            }
        }
    }

    private static void compareResult(String text, String read) {
        Model model = new Model(text);
        model.align(read);
        String of = " of " + read + " in " + text;
        WalkAligner x = new Session(text, read).next();
        checks.same("cost" + of, x.align(), model.cost);
        checks.same("walk" + of, Calls.walk(x), model.walkText());
        checks.same("edits" + of, Calls.edits(x), model.edits);
        for (int path = 0; path < 5; path++) {
            checks.same("lies " + path + of, x.lies(path) ? 1 : 0, model.lies(path) ? 1 : 0);
        }
        WalkAligner y = new Session(text, read).next();
        y.align();
        checks.same("tell" + of, y.tell(), model.record().length());
        checks.same("record" + of, Calls.record(y), model.record());
    }

    private static void compareLoad(String text) {
        checks.same("load " + text, Calls.typed(text).load(), -new Model(text).firstBadLine);
    }

    /** Hands out an object with a graph and a read, and a new one before its calls are used up. */
    private static final class Session {
        private final String text;
        private final String read;
        private WalkAligner object;
        private int callsLeft;

        Session(String text, String read) {
            this.text = text;
            this.read = read;
        }

        WalkAligner next() {
            if (callsLeft == 0) {
                object = Calls.loaded(text);
                Calls.read(object, read);
                callsLeft = MOST_CALLS - text.length() - 1 - read.length();
            }
            callsLeft--;
            return object;
        }
    }
}
