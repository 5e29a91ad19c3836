import java.util.Random;

/** Long mixed runs, right and wrong calls among each other: FountainDesk answers as PlainDesk does. */
public final class RandomRunsTest {
    private static final int RUNS = 60;
    private static final int CALLS = 512;

    private final Check check;
    private final Random random;
    private final String name;
    private final FountainDesk desk = new FountainDesk();
    private final PlainDesk plain = new PlainDesk();
    private final int k;
    private final int t;
    private int calls = 0;

    private RandomRunsTest(Check check, int seed) {
        this.check = check;
        random = new Random(seed);
        name = "run " + seed;
        k = seed % 3 == 0 ? 1 + random.nextInt(48) : 1 + random.nextInt(12);
        t = 1 + random.nextInt(seed % 2 == 0 ? 16 : 3);
    }

    public static void main(String[] args) {
        Check check = new Check();
        for (int seed = 0; seed < RUNS; seed++) {
            new RandomRunsTest(check, seed).run();
        }
        check.finish();
    }

    private void run() {
        while (calls < CALLS) {
            int choice = random.nextInt(100);
            if (choice < 5) {
                tapeOf(k * t);
                call("block", k, t);
            } else if (choice < 8) {
                call("open", k, t);
            } else if (choice < 12) {
                tapeOf(t);
                call("give", near());
            } else if (choice < 60) {
                goodCall(choice % 6);
            } else {
                anyCall();
            }
        }
    }

    private void goodCall(int kind) {
        switch (kind) {
            case 0 -> call("take", near());
            case 1 -> call("takeAll", random.nextInt(65536), random.nextInt(), random.nextInt(6));
            case 2 -> call("known", near(), random.nextInt(t));
            case 3 -> call("byteAt", near(), random.nextInt(t));
            case 4 -> call("follows", near());
            default -> call("count", random.nextInt(7));
        }
    }

    private void anyCall() {
        switch (random.nextInt(15)) {
            case 0 -> call("feed", random.nextInt(), random.nextInt(), 0, random.nextInt(), -1);
            case 1 -> call("end", random.nextInt(30) - 3);
            case 2 -> call("turn", random.nextInt(52) - 1);
            case 3 -> call("block", random.nextInt(50), random.nextInt(18));
            case 4 -> call("byteAt", packet(), random.nextInt(18) - 1);
            case 5 -> call("row", random.nextInt(52) - 1, packet(), random.nextBoolean());
            case 6 -> call(random.nextInt(8) == 0 ? "open" : "rank");
            case 7 -> call("take", packet());
            case 8 -> call("takeAll", packet(), random.nextInt(9) - 4, random.nextInt(105) - 2);
            case 9 -> call("give", packet());
            case 10 -> call("rank");
            case 11 -> call("follows", packet());
            case 12 -> call("known", packet(), random.nextInt(18) - 1);
            case 13 -> call("product", random.nextInt(), random.nextInt());
            default -> call("count", random.nextInt(9) - 1);
        }
    }

    private int near() {
        return random.nextInt(3) == 0 ? random.nextInt(65536) : random.nextInt(2 * k);
    }

    private int packet() {
        int[] edges = {-1, 0, 65535, 65536, Integer.MAX_VALUE, Integer.MIN_VALUE};
        return random.nextInt(4) == 0 ? edges[random.nextInt(edges.length)] : near();
    }

    private void tapeOf(int bytes) {
        call("end", 0);
        // Now and then all 0, so that a given packet goes with what stands.
        boolean zero = random.nextInt(4) == 0;
        for (int n = 0; n < bytes; n += 20) {
            int a = zero ? 0 : random.nextInt();
            call("feed", a, a * 31, a * 37, a * 41, a * 43);
        }
        call("end", bytes);
    }

    private void call(String method, Object... given) {
        if (calls == CALLS) {
            return;
        }
        Object[] args = given;
        if (method.equals("open") && given.length == 0) {
            args = new Object[] {random.nextInt(50), random.nextInt(18)};
        }
        calls++;
        String got = Calls.answer(desk, method, args);
        String due = Calls.answer(plain, method, args);
        check.same(name + ", call " + calls + ": " + Calls.text(method, args), got, due);
    }
}
