/** Runs the named tests of one file and counts the answers that are not as due. */
public final class Checks {
    private final String promise;
    private String test = "";
    private int tests;
    private int asked;
    private int wrong;

    public Checks(String promise) {
        this.promise = promise;
    }

    /** Runs a test; one that throws or asks nothing has failed, and the others are run all the same. */
    public void test(String name, Runnable body) {
        int askedBefore = asked;
        test = name;
        tests++;
        try {
            body.run();
        } catch (RuntimeException | Error thrown) {
            fail("threw " + thrown);
        }
        if (asked == askedBefore) {
            fail("asked nothing");
        }
    }

    public void same(String what, long got, long due) {
        asked++;
        if (got != due) {
            fail(what + ": " + got + ", due is " + due);
        }
    }

    public void same(String what, String got, String due) {
        asked++;
        if (!got.equals(due)) {
            fail(what + ": '" + got + "', due is '" + due + "'");
        }
    }

    public void yes(String what, boolean got) {
        same(what, got ? 1 : 0, 1);
    }

    public void no(String what, boolean got) {
        same(what, got ? 1 : 0, 0);
    }

    /** Ends the program, with exit code 1 if an answer was not as due. */
    public void end() {
        System.out.println(promise + ": " + tests + " tests, " + asked + " answers, " + wrong + " wrong");
        if (wrong != 0 || tests == 0) {
            System.exit(1);
        }
    }

    private void fail(String how) {
        wrong++;
        System.out.println(promise + ": " + test + ": " + how);
    }
}
