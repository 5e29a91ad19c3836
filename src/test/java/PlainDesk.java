import java.util.ArrayList;
import java.util.List;
import java.util.TreeSet;

/**
 * The document once more, as slowly and plainly as it can be said, to hold the program against: every
 * question is answered by eliminating all equations from the beginning, leads from the left.
 */
public final class PlainDesk {
    private final List<Integer> tape = new ArrayList<>();
    private int blockK = 0;
    private int blockT = 0;
    private List<int[]> blockEquations = new ArrayList<>();
    private int catcherK = 0;
    private int catcherT = 0;
    private int caught = 0;
    private List<int[]> catcherEquations = new ArrayList<>();

    // ---- the field and the rows

    static int times(int a, int b) {
        int sum = 0;
        for (int bit = 0; bit < 8; bit++) {
            if ((b >> bit & 1) == 1) {
                sum ^= a << bit;
            }
        }
        for (int bit = 15; bit >= 8; bit--) {
            if ((sum >> bit & 1) == 1) {
                sum ^= 285 << (bit - 8);
            }
        }
        return sum;
    }

    private static final int[][] PRODUCTS = products();

    private static int[][] products() {
        int[][] all = new int[256][256];
        for (int a = 0; a < 256; a++) {
            for (int b = 0; b < 256; b++) {
                all[a][b] = times(a, b);
            }
        }
        return all;
    }

    private static int inverse(int a) {
        for (int b = 1; b < 256; b++) {
            if (PRODUCTS[a][b] == 1) {
                return b;
            }
        }
        throw new ArithmeticException();
    }

    static long mix(long x, int s) {
        long z = x + (s + 1L) * 0x9E3779B97F4A7C15L;
        z = (z ^ z >>> 30) * 0xBF58476D1CE4E5B9L;
        z = (z ^ z >>> 27) * 0x94D049BB133111EBL;
        return z ^ z >>> 31;
    }

    static int r(long x, int s, int m) {
        return Integer.remainderUnsigned((int) (mix(x, s) >> 32), m);
    }

    static TreeSet<Integer> places(int k, int x, int turn) {
        int inner = k + 11;
        long y = x + 65536L * turn;
        int v = r(y, 0, 1000);
        int d = v < 5 ? 1 : v < 505 ? 2 : v < 671 ? 3 : v < 754 ? 4 : v < 804 ? 5 : v < 837 ? 6
            : v < 861 ? 7 : v < 879 ? 8 : v < 900 ? 10 : v < 960 ? 20 : 40;
        int prime = inner;
        while (!java.math.BigInteger.valueOf(prime).isProbablePrime(50)) {
            prime++;
        }
        TreeSet<Integer> found = new TreeSet<>();
        for (long n = 0; found.size() < Math.min(d, inner); n++) {
            int at = (int) ((r(y, 2, prime) + n * (1 + r(y, 1, prime - 1))) % prime);
            if (at < inner) {
                found.add(at);
            }
        }
        return found;
    }

    private static List<int[]> elevenRows(int k, int t) {
        List<int[]> all = new ArrayList<>();
        for (int i = 0; i < 11; i++) {
            all.add(new int[k + 11 + t]);
            all.get(i)[k + i] = 1;
        }
        for (int j = 0; j < k; j++) {
            int a = 1 + (j / 7) % 6;
            for (int n = 0; n < 3; n++) {
                all.get((j + n * a) % 7)[j] = 1;
            }
        }
        for (int i = 0; i < 4; i++) {
            for (int j = 0; j < k + 7; j++) {
                int power = 1;
                for (int n = 0; n < j * (i + 1); n++) {
                    power = PRODUCTS[power][2];
                }
                all.get(7 + i)[j] = power;
            }
        }
        return all;
    }

    private static int[] packetRow(int k, int t, int x, int turn) {
        int[] made = new int[k + 11 + t];
        for (int place : places(k, x, turn)) {
            made[place] = 1;
        }
        return made;
    }

    // ---- elimination

    private static void addTimes(int[] to, int[] from, int factor) {
        for (int j = 0; j < to.length; j++) {
            to[j] ^= PRODUCTS[factor][from[j]];
        }
    }

    /** The equations in steps: row n's first place that is not 0 is 1 and lies behind row n - 1's. */
    private static List<int[]> steps(List<int[]> equations, int inner) {
        List<int[]> left = new ArrayList<>();
        for (int[] one : equations) {
            left.add(one.clone());
        }
        List<int[]> made = new ArrayList<>();
        for (int place = 0; place < inner; place++) {
            int[] lead = null;
            for (int[] one : left) {
                if (lead == null && one[place] != 0) {
                    lead = one;
                }
            }
            if (lead == null) {
                continue;
            }
            left.remove(lead);
            int factor = inverse(lead[place]);
            for (int j = 0; j < lead.length; j++) {
                lead[j] = PRODUCTS[factor][lead[j]];
            }
            for (int[] one : left) {
                addTimes(one, lead, one[place]);
            }
            made.add(lead);
        }
        return made;
    }

    private static int firstPlace(int[] one, int inner) {
        for (int j = 0; j < inner; j++) {
            if (one[j] != 0) {
                return j;
            }
        }
        return -1;
    }

    private static int[] reduced(List<int[]> equations, int[] one, int inner) {
        int[] left = one.clone();
        for (int[] step : steps(equations, inner)) {
            addTimes(left, step, left[firstPlace(step, inner)]);
        }
        return left;
    }

    private static final int[] TURNS = new int[49];

    /** Held as turn + 1 once it was found. */
    private static int turnOf(int k) {
        for (int turn = 0; TURNS[k] == 0; turn++) {
            List<int[]> all = elevenRows(k, 0);
            for (int x = 0; x < k; x++) {
                all.add(packetRow(k, 0, x, turn));
            }
            if (steps(all, k + 11).size() == k + 11) {
                TURNS[k] = turn + 1;
            }
        }
        return TURNS[k] - 1;
    }

    // ---- the face

    private static void argument(boolean fine) {
        if (!fine) {
            throw new IllegalArgumentException();
        }
    }

    private static void index(boolean fine) {
        if (!fine) {
            throw new IndexOutOfBoundsException();
        }
    }

    private static void state(boolean fine) {
        if (!fine) {
            throw new IllegalStateException();
        }
    }

    private static void supported(boolean fine) {
        if (!fine) {
            throw new UnsupportedOperationException();
        }
    }

    private static boolean within(int n, int least, int most) {
        return n >= least && n <= most;
    }

    public int feed(int a, int b, int c, int d, int e) {
        supported(tape.size() <= 780);
        for (byte one : java.nio.ByteBuffer.allocate(20).putInt(a).putInt(b).putInt(c).putInt(d).putInt(e).array()) {
            tape.add(one & 255);
        }
        return tape.size();
    }

    public void end(int n) {
        argument(within(n, 0, tape.size()));
        tape.subList(n, tape.size()).clear();
    }

    public int turn(int k) {
        argument(within(k, 1, 48));
        return turnOf(k);
    }

    public void block(int k, int t) {
        argument(within(k, 1, 48) && within(t, 1, 16) && tape.size() == k * t);
        List<int[]> all = elevenRows(k, t);
        for (int x = 0; x < k; x++) {
            int[] one = packetRow(k, t, x, turnOf(k));
            for (int i = 0; i < t; i++) {
                one[k + 11 + i] = tape.get(x * t + i);
            }
            all.add(one);
        }
        blockK = k;
        blockT = t;
        blockEquations = all;
        tape.clear();
    }

    public int byteAt(int x, int i) {
        state(blockK > 0);
        index(within(x, 0, 65535) && within(i, 0, blockT - 1));
        return blockPacket(x)[blockK + 11 + i];
    }

    /** The packet's bytes behind the places, which are all 0. */
    private int[] blockPacket(int x) {
        return reduced(blockEquations, packetRow(blockK, blockT, x, turnOf(blockK)), blockK + 11);
    }

    public int row(int k, int x, boolean place) {
        argument(within(k, 1, 48));
        index(within(x, 0, 65535));
        TreeSet<Integer> all = places(k, x, turnOf(k));
        return place ? all.last() : all.size();
    }

    public void open(int k, int t) {
        argument(within(k, 1, 48) && within(t, 1, 16));
        catcherK = k;
        catcherT = t;
        caught = 0;
        catcherEquations = elevenRows(k, t);
    }

    /** 1: the rank grew, 0: it did not, -1: refused. */
    private int caughtBy(int x, int[] bytes, int from) {
        int inner = catcherK + 11;
        int[] one = packetRow(catcherK, catcherT, x, turnOf(catcherK));
        System.arraycopy(bytes, from, one, inner, catcherT);
        int[] left = reduced(catcherEquations, one, inner);
        boolean grows = firstPlace(left, inner) >= 0;
        if (!grows && firstPlace(left, inner + catcherT) >= 0) {
            return -1;
        }
        caught++;
        if (grows) {
            catcherEquations.add(one);
        }
        return grows ? 1 : 0;
    }

    public boolean take(int x) {
        state(blockK > 0 && catcherK == blockK && catcherT == blockT);
        index(within(x, 0, 65535));
        int grown = caughtBy(x, blockPacket(x), blockK + 11);
        supported(grown >= 0);
        return grown == 1;
    }

    public int takeAll(int x, int step, int n) {
        state(blockK > 0 && catcherK == blockK && catcherT == blockT);
        index(within(x, 0, 65535));
        argument(within(n, 0, 100));
        int grown = 0;
        for (long i = 0; i < n; i++) {
            int at = (int) Math.floorMod(x + i * step, 65536L);
            int one = caughtBy(at, blockPacket(at), blockK + 11);
            if (one < 0) {
                break;
            }
            grown += one;
        }
        return grown;
    }

    public boolean give(int x) {
        state(catcherK > 0);
        index(within(x, 0, 65535));
        argument(tape.size() == catcherT);
        int[] bytes = new int[catcherT];
        for (int i = 0; i < catcherT; i++) {
            bytes[i] = tape.get(i);
        }
        int grown = caughtBy(x, bytes, 0);
        supported(grown >= 0);
        tape.clear();
        return grown == 1;
    }

    public int rank() {
        state(catcherK > 0);
        return steps(catcherEquations, catcherK + 11).size();
    }

    private int[] derived(int x) {
        return reduced(catcherEquations, packetRow(catcherK, catcherT, x, turnOf(catcherK)), catcherK + 11);
    }

    public boolean follows(int x) {
        state(catcherK > 0);
        index(within(x, 0, 65535));
        return firstPlace(derived(x), catcherK + 11) < 0;
    }

    public int known(int x, int i) {
        state(catcherK > 0);
        index(within(x, 0, 65535));
        int[] left = derived(x);
        state(firstPlace(left, catcherK + 11) < 0);
        index(within(i, 0, catcherT - 1));
        return left[catcherK + 11 + i];
    }

    public int product(int a, int b) {
        return times(a & 255, b & 255);
    }

    public int count(int what) {
        argument(within(what, 0, 6));
        if (what == 6) {
            int all = 0;
            for (int x = 0; x < catcherK; x++) {
                all += follows(x) ? 1 : 0;
            }
            return all;
        }
        return new int[] {tape.size(), blockK, blockT, catcherK, catcherT, caught}[what];
    }
}
