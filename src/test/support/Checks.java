/** Counts answers that are not as due, and spares the tests the typing of calls one by one. */
public final class Checks {
    private int wrong;
    private int done;

    public void same(String what, long got, long want) {
        done++;
        if (got != want) {
            wrong++;
            System.out.println(what + ": " + got + ", due is " + want);
        }
    }

    public void same(String what, String got, String want) {
        done++;
        if (!got.equals(want)) {
            wrong++;
            System.out.println(what + ": '" + got + "', due is '" + want + "'");
        }
    }

    public void yes(String what, boolean got) {
        same(what, got ? 1 : 0, 1);
    }

    public void no(String what, boolean got) {
        same(what, got ? 1 : 0, 0);
    }

    /** Ends the program, with exit code 1 if an answer was not as due. */
    public void end() {
        System.out.println(done + " checks, " + wrong + " wrong");
        if (wrong != 0 || done == 0) {
            System.exit(1);
        }
    }

    public static WalkAligner typed(String text) {
        WalkAligner x = new WalkAligner();
        type(x, text);
        return x;
    }

    public static WalkAligner loaded(String text) {
        WalkAligner x = typed(text);
        if (x.load() != 0) {
            throw new IllegalStateException("the test's own text is not good: " + text);
        }
        return x;
    }

    /** An object with this text as its graph, the read aligned to it. */
    public static WalkAligner aligned(String text, String read) {
        WalkAligner x = loaded(text);
        read(x, read);
        x.align();
        return x;
    }

    public static void type(WalkAligner x, String text) {
        for (char c : text.toCharArray()) {
            if (!x.type(c)) {
                throw new IllegalStateException("refused: " + (int) c);
            }
        }
    }

    public static void read(WalkAligner x, String bases) {
        for (char c : bases.toCharArray()) {
            if (!x.read(c)) {
                throw new IllegalStateException("refused: " + (int) c);
            }
        }
    }

    public static String walk(WalkAligner x) {
        StringBuilder all = new StringBuilder();
        int place = x.walk(0);
        for (int k = 1; k < 64 && place != WalkAligner.BAD; k++) {
            all.append(k == 1 ? "" : " ").append(place);
            place = x.walk(k);
        }
        return all.toString();
    }

    public static String edits(WalkAligner x) {
        StringBuilder all = new StringBuilder();
        int edit = x.edit(0);
        for (int k = 1; k < 64 && edit != WalkAligner.BAD; k++) {
            all.append((char) edit);
            edit = x.edit(k);
        }
        return all.toString();
    }

    public static String record(WalkAligner x) {
        StringBuilder all = new StringBuilder();
        int letter = x.letter(0);
        for (int k = 1; k < 300 && letter != WalkAligner.BAD; k++) {
            all.append((char) letter);
            letter = x.letter(k);
        }
        return all.toString();
    }
}
