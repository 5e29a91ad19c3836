/** Counts the checks of one test, prints those that fail, and ends with exit code 1 if there was one. */
final class Check {
    private int done = 0;
    private int wrong = 0;

    void same(String what, long got, long due) {
        done++;
        if (got != due) {
            fail(what + " answered " + got + ", due is " + due);
        }
    }

    void same(String what, boolean got, boolean due) {
        same(what, got ? 1 : 0, due ? 1 : 0);
    }

    void same(String what, String got, String due) {
        done++;
        if (!got.equals(due)) {
            fail(what + " answered " + got + ", due is " + due);
        }
    }

    /** Of two long readings that differ, just the first answer that is not the same is printed. */
    void sameReading(String what, String got, String due) {
        String[] pieces = got.split("; ");
        String[] duePieces = due.split("; ");
        int at = 0;
        while (at < pieces.length - 1 && at < duePieces.length - 1 && pieces[at].equals(duePieces[at])) {
            at++;
        }
        same(what + ":", pieces[at], duePieces[at]);
        same(what + ": answers", pieces.length, duePieces.length);
    }

    void refuses(String what, Class<? extends RuntimeException> due, Runnable call) {
        done++;
        String got = "nothing";
        try {
            call.run();
        } catch (RuntimeException e) {
            if (e.getClass() == due) {
                return;
            }
            got = e.getClass().getSimpleName();
        }
        fail(what + " throws " + got + ", due is " + due.getSimpleName());
    }

    void finish() {
        System.out.println(done + " checks, " + wrong + " wrong");
        if (wrong != 0 || done == 0) {
            System.exit(1);
        }
    }

    private void fail(String text) {
        wrong++;
        System.out.println(text);
    }
}
