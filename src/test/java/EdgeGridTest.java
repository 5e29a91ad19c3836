import java.util.ArrayList;
import java.util.Arrays;
import java.util.List;

/**
 * Each call with each of its arguments at the borders, in each kind of state: FountainDesk answers as
 * PlainDesk does, stands as PlainDesk does behind it, and stands as before if the call throws.
 */
public final class EdgeGridTest {
    private static final int[] PACKETS = {-1, 0, 3, 4, 16, 65535, 65536, Integer.MIN_VALUE, Integer.MAX_VALUE};
    private static final int[] BYTES = {-1, 0, 2, 3, 15, 16};
    private static final int[] COUNTS_OF_SYMBOLS = {-1, 0, 1, 4, 20, 48, 49, Integer.MAX_VALUE};
    private static final int[] COUNTS_OF_BYTES = {-1, 0, 1, 3, 5, 16, 17};

    /** A state: the calls that lead to it. */
    private record State(String name, Object[][] calls) {
    }

    private final Check check = new Check();

    public static void main(String[] args) {
        EdgeGridTest test = new EdgeGridTest();
        for (State state : states()) {
            String before = Reading.of(made(new PlainDesk(), state));
            for (Object[] call : calls()) {
                test.compare(state, before, call);
            }
        }
        test.check.finish();
    }

    private void compare(State state, String before, Object[] call) {
        Object desk = made(new FountainDesk(), state);
        Object plain = made(new PlainDesk(), state);
        String what = state.name + ": " + Calls.text((String) call[0], arguments(call));
        String due = ask(plain, call);
        check.same(what, ask(desk, call), due);
        String after = due.startsWith("throws.") ? before : Reading.of(plain);
        check.sameReading(what + ", what is so then", Reading.of(desk), after);
    }

    private static Object made(Object desk, State state) {
        for (Object[] call : state.calls) {
            if (ask(desk, call).startsWith("throws.")) {
                throw new AssertionError(state.name + ": " + Calls.text((String) call[0], arguments(call)));
            }
        }
        return desk;
    }

    private static String ask(Object desk, Object[] call) {
        return Calls.answer(desk, (String) call[0], arguments(call));
    }

    private static Object[] arguments(Object[] call) {
        return Arrays.copyOfRange(call, 1, call.length);
    }

    // ---- the states

    private static List<State> states() {
        Object[][] abc = {{"feed", 0x61626364, 0x65666768, 0x696A6B6C, 0, 0}, {"end", 12}, {"block", 4, 3}};
        Object[][] other = {{"feed", 0xC9CACBCC, 0xCDCECFD0, 0xD1D2D3D4, 0, 0}, {"end", 12}, {"block", 4, 3}};
        Object[][] open = {{"open", 4, 3}};
        Object[][] twenty = {{"feed", 1, -2, 3, -4, 5}};
        Object[][] three = {{"feed", 0x61626400, 0, 0, 0, 0}, {"end", 3}};
        Object[][] some = {{"take", 0}, {"take", 0}};
        Object[][] all = {{"takeAll", 0, 1, 4}};
        List<State> made = new ArrayList<>();
        made.add(state("new"));
        made.add(state("tape of 20", twenty));
        made.add(state("full tape", times(40, twenty[0])));
        made.add(state("tape of 781", times(40, twenty[0]), new Object[][] {{"end", 781}}));
        made.add(state("block", abc));
        made.add(state("block and tape", abc, twenty));
        made.add(state("catcher and tape", open, three));
        made.add(state("catcher of one symbol", new Object[][] {{"open", 1, 3}}, three));
        made.add(state("block and catcher", abc, open));
        made.add(state("one caught, bad tape", abc, open, some, three));
        made.add(state("one caught, other block", abc, open, some, other));
        made.add(state("all caught, other block, bad tape", abc, open, all, other, three));
        made.add(state("other K", abc, new Object[][] {{"open", 3, 3}}, three));
        made.add(state("other T", abc, new Object[][] {{"open", 4, 1}}));
        return made;
    }

    private static State state(String name, Object[][]... parts) {
        List<Object[]> calls = new ArrayList<>();
        for (Object[][] part : parts) {
            calls.addAll(List.of(part));
        }
        return new State(name, calls.toArray(new Object[0][]));
    }

    private static Object[][] times(int n, Object[] call) {
        Object[][] made = new Object[n][];
        Arrays.fill(made, call);
        return made;
    }

    // ---- the calls

    private static List<Object[]> calls() {
        List<Object[]> made = new ArrayList<>();
        made.add(new Object[] {"feed", -1, 0, 1, Integer.MIN_VALUE, Integer.MAX_VALUE});
        made.add(new Object[] {"rank"});
        addNumbers(made, "end", -1, 0, 1, 19, 20, 21, 780, 781, 782, 800, 801, Integer.MAX_VALUE, Integer.MIN_VALUE);
        addNumbers(made, "turn", COUNTS_OF_SYMBOLS);
        addNumbers(made, "take", PACKETS);
        addNumbers(made, "give", PACKETS);
        addNumbers(made, "follows", PACKETS);
        addNumbers(made, "count", -1, 0, 1, 2, 3, 4, 5, 6, 7);
        addPairs(made, "block", COUNTS_OF_SYMBOLS, COUNTS_OF_BYTES);
        addPairs(made, "open", COUNTS_OF_SYMBOLS, COUNTS_OF_BYTES);
        addPairs(made, "byteAt", PACKETS, BYTES);
        addPairs(made, "known", PACKETS, BYTES);
        addPairs(made, "product", new int[] {0, 255, 256, -1}, new int[] {1, 128, 257, Integer.MIN_VALUE});
        for (int x : PACKETS) {
            for (int k : new int[] {0, 1, 48, 49}) {
                made.add(new Object[] {"row", k, x, x % 2 == 0});
            }
            for (int n : new int[] {-1, 0, 1, 5, 100, 101}) {
                for (int step : new int[] {0, 1, -1, 65537, Integer.MIN_VALUE}) {
                    made.add(new Object[] {"takeAll", x, step, n});
                }
            }
        }
        return made;
    }

    private static void addNumbers(List<Object[]> made, String method, int... numbers) {
        for (int one : numbers) {
            made.add(new Object[] {method, one});
        }
    }

    private static void addPairs(List<Object[]> made, String method, int[] firsts, int[] seconds) {
        for (int first : firsts) {
            for (int second : seconds) {
                made.add(new Object[] {method, first, second});
            }
        }
    }
}
