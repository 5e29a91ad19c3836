/** Counts the checks of one test, prints those that fail, and ends with exit code 1 if there was one. */
final class Check {
    private int done = 0;
    private int wrong = 0;

    void same(String what, long got, long due) {
        done++;
        if (got != due) {
            fail(what + " answered " + got + ", due is " + due);
        }
    }

    void same(String what, boolean got, boolean due) {
        same(what, got ? 1 : 0, due ? 1 : 0);
    }

    void same(String what, String got, String due) {
        done++;
        if (!got.equals(due)) {
            fail(what + " answered " + got + ", due is " + due);
        }
    }

    void refuses(String what, Class<? extends RuntimeException> due, Runnable call) {
        done++;
        String got = "nothing";
        try {
            call.run();
        } catch (RuntimeException e) {
            if (e.getClass() == due) {
                return;
            }
            got = e.getClass().getSimpleName();
        }
        fail(what + " throws " + got + ", due is " + due.getSimpleName());
    }

    void finish() {
        System.out.println(done + " checks, " + wrong + " wrong");
        if (wrong != 0 || done == 0) {
            System.exit(1);
        }
    }

    private void fail(String text) {
        wrong++;
        System.out.println(text);
    }
}
