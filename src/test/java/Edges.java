import java.util.function.Supplier;

/** Checks of calls at the borders of what the document allows. */
final class Edges {
    static final String STATE = "throws.IllegalStateException";
    static final String INDEX = "throws.IndexOutOfBoundsException";
    static final String ARGUMENT = "throws.IllegalArgumentException";
    static final String SUPPORT = "throws.UnsupportedOperationException";
    /** What a void method answers when it does not throw. */
    static final String DONE = "null";

    private final Check check = new Check();

    /** The call answers what is due. */
    void gets(FountainDesk desk, Object due, String method, Object... args) {
        check.same(test() + Calls.text(method, args), Calls.answer(desk, method, args), String.valueOf(due));
    }

    /** The call throws what is due, and leaves the desk like one on which it was not made. */
    void refuses(Supplier<FountainDesk> made, String due, String method, Object... args) {
        FountainDesk desk = made.get();
        String call = test() + Calls.text(method, args);
        check.same(call, Calls.answer(desk, method, args), due);
        check.sameReading(call + " changes nothing", Reading.of(desk), Reading.of(made.get()));
    }

    /** The call leaves the desk like one on which it was not made. */
    void leaves(Supplier<FountainDesk> made, String method, Object... args) {
        FountainDesk desk = made.get();
        Calls.answer(desk, method, args);
        check.sameReading(test() + Calls.text(method, args) + " leaves all", Reading.of(desk), Reading.of(made.get()));
    }

    void same(String what, long got, long due) {
        check.same(test() + what, got, due);
    }

    /** Both desks tell the same of all that can be asked; both are used up by it. */
    void alike(String what, FountainDesk desk, FountainDesk due) {
        check.sameReading(test() + what, Reading.of(desk), Reading.of(due));
    }

    void finish() {
        check.finish();
    }

    /** The name of the test that runs: of the method that main called. */
    private static String test() {
        StackTraceElement[] frames = new Throwable().getStackTrace();
        return frames[Math.max(frames.length - 2, 0)].getMethodName() + ": ";
    }
}
