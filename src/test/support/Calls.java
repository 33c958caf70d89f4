/** Spares the tests the making of calls one by one. */
public final class Calls {
    public static final int BAD = -1;
    public static final int NONE = -2;

    // Places: a+ 0 A, 1 C, 2 G; a- 3 C, 4 G, 5 T; b+ 6 T; b- 7 A; c+ 8 G, 9 G; c- 10 C, 11 C.
    public static final String CHAIN = "H made by hand\nS\ta\tACG\nS\tb\tT\nS\tc\tGG\n"
            + "L\ta\t+\tb\t+\t0M\nL\tb\t+\tc\t-\t0M\nP\tp\ta+,b+,c-\t*\n";
    // Places: x+ 0 A; x- 1 T.
    public static final String LOOP = "S\tx\tA\nL\tx\t+\tx\t+\t0M\nP\tq\tx+,x+,x+\t*\n";
    // As much as a graph may have: 8 segments, 12 links, 4 paths, 64 places.
    public static final String FULL = "S\ta\tACGT\nS\tb\tAAAA\nS\tc\tCCCC\nS\td\tGTGT\n"
            + "S\te\tTTAA\nS\tf\tCATG\nS\tg\tGGCA\nS\th\tTCGA\n"
            + "L\ta\t+\tb\t+\t0M\nL\tb\t+\tc\t+\t0M\nL\tc\t+\td\t+\t0M\nL\td\t+\te\t+\t0M\n"
            + "L\te\t+\tf\t+\t0M\nL\tf\t+\tg\t+\t0M\nL\tg\t+\th\t+\t0M\nL\th\t+\ta\t+\t0M\n"
            + "L\ta\t+\ta\t+\t0M\nL\tb\t+\tb\t-\t0M\nL\tc\t-\tc\t+\t0M\nL\td\t+\ta\t-\t0M\n"
            + "P\tp\ta+,b+,c+,d+,e+,f+,g+,h+\t*\nP\tq\th-,g-,f-,e-,d-,c-,b-,a-\t*\n"
            + "P\tr\ta+,a+,a+,a+,a+,a+,a+,a+\t*\nP\ts\th+,a+,b+,c+,d+,e+,f+,g+\t*\n";

    private static final int[] FAR = {Integer.MIN_VALUE, Integer.MIN_VALUE + 1, -65536, -256, -3, -2, -1,
        256, 65536, 1 << 26, 1 << 28, 1 << 30, Integer.MAX_VALUE - 1, Integer.MAX_VALUE};

    private Calls() {
    }

    /** Numbers below and above every range of the document, among them those that wrap around to 0. */
    public static int[] far() {
        return FAR.clone();
    }

    public static WalkAligner typed(String text) {
        WalkAligner x = new WalkAligner();
        type(x, text);
        return x;
    }

    public static WalkAligner loaded(String text) {
        WalkAligner x = typed(text);
        loadGood(x, text);
        return x;
    }

    /** An object with this text as its graph and this read, not aligned yet. */
    public static WalkAligner ready(String text, String bases) {
        WalkAligner x = loaded(text);
        read(x, bases);
        return x;
    }

    /** An object with this text as its graph and the read aligned to it. */
    public static WalkAligner aligned(String text, String bases) {
        WalkAligner x = ready(text, bases);
        x.align();
        return x;
    }

    public static void type(WalkAligner x, String text) {
        for (char c : text.toCharArray()) {
            if (!x.type(c)) {
                throw new IllegalStateException("type refused " + (int) c);
            }
        }
    }

    /** Makes a good text the graph. */
    public static void load(WalkAligner x, String text) {
        x.clear();
        type(x, text);
        loadGood(x, text);
    }

    private static void loadGood(WalkAligner x, String text) {
        if (x.load() != 0) {
            throw new IllegalStateException("load refused " + shown(text));
        }
    }

    public static void read(WalkAligner x, String bases) {
        for (char c : bases.toCharArray()) {
            if (!x.read(c)) {
                throw new IllegalStateException("read refused " + (int) c);
            }
        }
    }

    /** The numbers of segments, links, paths and places. */
    public static String sizes(WalkAligner x) {
        return x.size(0) + " " + x.size(1) + " " + x.size(2) + " " + x.size(3);
    }

    public static String bases(WalkAligner x) {
        StringBuilder all = new StringBuilder();
        int base = x.base(0);
        for (int place = 1; place < 100 && base != BAD; place++) {
            all.append((char) base);
            base = x.base(place);
        }
        return all.toString();
    }

    /** Every place with every place that follows it, and what is answered just beyond them. */
    public static String followings(WalkAligner x) {
        StringBuilder all = new StringBuilder();
        int places = x.size(3);
        for (int u = -1; u <= places; u++) {
            for (int v = -1; v <= places; v++) {
                if (x.follows(u, v)) {
                    all.append(all.length() == 0 ? "" : " ").append(u).append('-').append(v);
                }
            }
        }
        return all.toString();
    }

    public static String walk(WalkAligner x) {
        StringBuilder all = new StringBuilder();
        int place = x.walk(0);
        for (int k = 1; k < 64 && place != BAD; k++) {
            all.append(k == 1 ? "" : " ").append(place);
            place = x.walk(k);
        }
        return all.toString();
    }

    public static String edits(WalkAligner x) {
        StringBuilder all = new StringBuilder();
        int edit = x.edit(0);
        for (int k = 1; k < 64 && edit != BAD; k++) {
            all.append((char) edit);
            edit = x.edit(k);
        }
        return all.toString();
    }

    /** A 1 or a 0 for each path of the graph. */
    public static String lyings(WalkAligner x) {
        StringBuilder all = new StringBuilder();
        int paths = x.size(2);
        for (int path = 0; path < paths; path++) {
            all.append(x.lies(path) ? '1' : '0');
        }
        return all.toString();
    }

    public static String record(WalkAligner x) {
        StringBuilder all = new StringBuilder();
        int letter = x.letter(0);
        for (int k = 1; k < 300 && letter != BAD; k++) {
            all.append((char) letter);
            letter = x.letter(k);
        }
        return all.toString();
    }

    public static void checkNoResult(Checks checks, String when, WalkAligner x) {
        checks.same("walk(0) " + when, x.walk(0), BAD);
        checks.same("edit(0) " + when, x.edit(0), BAD);
        checks.no("lies(0) " + when, x.lies(0));
        checks.same("tell() " + when, x.tell(), BAD);
    }

    /** A text with its TABs and line ends made visible. */
    public static String shown(String text) {
        return text.replace("\t", "_").replace("\n", "/");
    }
}
