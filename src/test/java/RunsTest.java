/**
 * Made-up runs of calls in any order, with numbers in and out of every range: each answer is
 * compared with that of a twin, which keeps what the document says is kept.
 */
public final class RunsTest {
    private static final int RUNS = 600;
    private static final int MOST_CALLS = 512;
    // Short enough for several texts to be typed and read in one run.
    private static final int MOST_TEXT = 90;
    private static final Checks checks = new Checks("Runs");
    private static final MadeUp madeUp = new MadeUp(20261116, MOST_TEXT);

    private static int run;
    private static int call;
    private static WalkAligner object;
    private static Twin twin;

    public static void main(String[] args) {
        checks.test("calls in any order", RunsTest::runs);
        checks.end();
    }

    private static void runs() {
        for (run = 1; run <= RUNS; run++) {
            object = new WalkAligner();
            twin = new Twin();
            call = 0;
            while (call < MOST_CALLS) {
                act(madeUp.below(24));
            }
        }
    }

    private static void act(int what) {
        switch (what) {
            case 0 -> typeAll(madeUp.text());
            case 1 -> typeAll(madeUp.spoilt(madeUp.text()));
            case 2 -> type((char) (madeUp.below(2) == 0 ? madeUp.below(140) : madeUp.below(0x10000)));
            case 3 -> clear();
            case 4 -> clearAndTypeAll();
            case 5, 6 -> load();
            case 7, 8 -> readAll();
            case 9 -> read((char) madeUp.below(140));
            case 10 -> drop();
            case 11, 12, 13 -> same("align()", object.align(), twin.align());
            case 14, 15 -> same("tell()", object.tell(), twin.tell());
            default -> ask(what, number(), number());
        }
    }

    private static void ask(int what, int k, int j) {
        switch (what) {
            case 16 -> same("size(" + k + ")", object.size(k), twin.size(k));
            case 17 -> same("base(" + k + ")", object.base(k), twin.base(k));
            case 18 -> same("follows(" + k + ", " + j + ")", object.follows(k, j) ? 1 : 0, twin.follows(k, j) ? 1 : 0);
            case 19 -> same("least(" + k + ", " + j + ")", object.least(k, j), twin.least(k, j));
            case 20 -> same("walk(" + k + ")", object.walk(k), twin.walk(k));
            case 21 -> same("edit(" + k + ")", object.edit(k), twin.edit(k));
            case 22 -> same("lies(" + k + ")", object.lies(k) ? 1 : 0, twin.lies(k) ? 1 : 0);
            default -> same("letter(" + k + ")", object.letter(k), twin.letter(k));
        }
    }

    /** Mostly a small number, often one at the edges of ranges, now and then one far out of them. */
    private static int number() {
        int kind = madeUp.below(10);
        if (kind == 0) {
            int[] far = Calls.far();
            return far[madeUp.below(far.length)];
        }
        return kind < 6 ? madeUp.below(6) - 1 : madeUp.below(30) - 1;
    }

    private static void same(String what, long got, long due) {
        call++;
        checks.same("run " + run + ", call " + call + ", " + what, got, due);
    }

    private static void type(char c) {
        same("type(" + (int) c + ")", object.type(c) ? 1 : 0, twin.type(c) ? 1 : 0);
    }

    private static void typeAll(String text) {
        for (int k = 0; k < text.length() && call < MOST_CALLS; k++) {
            type(text.charAt(k));
        }
    }

    private static void load() {
        same("load()", object.load(), twin.load());
    }

    private static void clear() {
        call++;
        object.clear();
        twin.text.setLength(0);
    }

    private static void clearAndTypeAll() {
        clear();
        typeAll(madeUp.text());
        if (call < MOST_CALLS) {
            load();
        }
    }

    private static void read(char c) {
        same("read(" + (int) c + ")", object.read(c) ? 1 : 0, twin.read(c) ? 1 : 0);
    }

    private static void readAll() {
        String bases = twin.graph.places.isEmpty() ? "ACGT" : madeUp.read(twin.graph);
        for (int k = 0; k < bases.length() && call < MOST_CALLS; k++) {
            read(bases.charAt(k));
        }
    }

    private static void drop() {
        call++;
        object.drop();
        twin.drop();
    }

    /** What an object keeps, in the document's words, each answer found anew from it. */
    private static final class Twin {
        final StringBuilder text = new StringBuilder();
        Model graph = new Model("");
        private String graphText = "";
        private String read = "";
        private Model result;
        private String record = "";
        private int[][] costs;

        boolean type(char c) {
            boolean known = c == 9 || c == 10 || (c >= 32 && c <= 126);
            if (!known || text.length() == 400) {
                return false;
            }
            text.append(c);
            return true;
        }

        int load() {
            Model next = new Model(text.toString());
            if (next.firstBadLine == 0) {
                graph = next;
                graphText = text.toString();
                result = null;
                costs = null;
            }
            return -next.firstBadLine;
        }

        int size(int what) {
            int[] sizes = {graph.segments.size(), graph.links.size(), graph.paths.size(), graph.places.size()};
            return what >= 0 && what < 4 ? sizes[what] : -1;
        }

        int base(int place) {
            return isPlace(place) ? graph.places.get(place).base() : -1;
        }

        private boolean isPlace(int place) {
            return place >= 0 && place < graph.places.size();
        }

        boolean follows(int u, int v) {
            return isPlace(u) && isPlace(v) && graph.followed(u, v);
        }

        boolean read(char c) {
            if ("ACGT".indexOf(c) < 0 || read.length() == 12) {
                return false;
            }
            read += c;
            costs = null;
            return true;
        }

        void drop() {
            read = "";
            costs = null;
        }

        int align() {
            if (graph.segments.isEmpty()) {
                return -2;
            }
            result = new Model(graphText);
            result.align(read);
            return result.cost;
        }

        int least(int i, int v) {
            if (i < 0 || i > read.length() || !isPlace(v)) {
                return -1;
            }
            costs = costs == null ? graph.leastCosts(read) : costs;
            return costs[i][v];
        }

        int walk(int k) {
            return result != null && k >= 0 && k < result.walk.size() ? result.walk.get(k) : -1;
        }

        int edit(int k) {
            return result != null && k >= 0 && k < result.edits.length() ? result.edits.charAt(k) : -1;
        }

        boolean lies(int path) {
            return result != null && path >= 0 && result.lies(path);
        }

        int tell() {
            if (result == null) {
                return -1;
            }
            record = result.record();
            return record.length();
        }

        int letter(int i) {
            return i >= 0 && i < record.length() ? record.charAt(i) : -1;
        }
    }
}
