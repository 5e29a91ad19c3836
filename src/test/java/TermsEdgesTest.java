import java.util.TreeSet;

/** The document's terms (mix, rows, packets, turns, blocks) at their borders: a test for each, which stands above it. */
public final class TermsEdgesTest {
    private static final Edges EDGES = new Edges();
    private static final int[] TURNS = {
        0, 1, 0, 0, 0, 0, 0, 0, 1, 1, 0, 0, 0, 0, 1, 0, 0, 0, 0, 0, 1, 0, 0, 0,
        0, 4, 0, 0, 0, 0, 0, 0, 0, 0, 0, 0, 1, 1, 1, 1, 1, 1, 0, 0, 0, 1, 0, 0};

    public static void main(String[] args) {
        mixWraps();
        chanceHasNoSign();
        sizesChangeAtTheirBorders();
        sizesEndAtL();
        fullRowsHaveEveryPlace();
        primesNotBelowL();
        placesFromFirstToLast();
        packetsOfALaterTurn();
        turnsAreTheLeast();
        sumsGoRound();
        elevenRowsGiveZero();
        symbolsEndAtK();
        longestRunOfTheDearestCalls();
        EDGES.finish();
    }

    /** "(all wraps)", "0s come from above": the first numbers of SplitMix64 from 0 on are well known. */
    private static void mixWraps() {
        long[] known = {0xE220A8397B1DCDAFL, 0x6E789E6AA1B965F4L, 0x06C45D188009454FL};
        for (int s = 0; s < 3; s++) {
            EDGES.same("mix(0, " + s + ")", PlainDesk.mix(0, s), known[s]);
        }
        // Packet 0 of turn 0 by these numbers: v is 33, so two places; P is 59.
        EDGES.gets(new FountainDesk(), 2, "row", 48, 0, false);
        long at = (known[2] >>> 32) % 59;
        long next = (at + 1 + (known[1] >>> 32) % 58) % 59;
        EDGES.gets(new FountainDesk(), Math.max(at, next), "row", 48, 0, true);
    }

    /** "the highest 32 bits of the mix of x by s, as a number without a sign": packets whose highest bit is 1. */
    private static void chanceHasNoSign() {
        FountainDesk desk = new FountainDesk();
        for (int s = 0; s < 3; s++) {
            int met = 0;
            for (int x = 0; met < 30; x++) {
                if (PlainDesk.mix(x, s) < 0) {
                    met++;
                    TreeSet<Integer> due = PlainDesk.places(48, x, 0);
                    EDGES.gets(desk, due.size(), "row", 48, x, false);
                    EDGES.gets(desk, due.last(), "row", 48, x, true);
                }
            }
        }
    }

    /** "d is 1 for v below 5, 2 below 505, ..": the last v below each border, and the border itself. */
    private static void sizesChangeAtTheirBorders() {
        int[][] due = {{0, 1}, {4, 1}, {5, 2}, {504, 2}, {505, 3}, {670, 3}, {671, 4}, {753, 4}, {754, 5},
            {803, 5}, {804, 6}, {836, 6}, {837, 7}, {860, 7}, {861, 8}, {878, 8}, {879, 10}, {899, 10},
            {900, 20}, {959, 20}, {960, 40}, {999, 40}};
        FountainDesk desk = new FountainDesk();
        for (int[] one : due) {
            EDGES.gets(desk, one[1], "row", 48, packetOf(one[0], 0), false);
        }
    }

    /** "L, if that is less": the last L that is less than a size, that size itself, and the next. */
    private static void sizesEndAtL() {
        int[][] due = {{1, 879, 10}, {1, 900, 12}, {1, 960, 12}, {8, 900, 19}, {9, 900, 20}, {10, 900, 20},
            {8, 999, 19}, {9, 999, 20}, {10, 999, 21}, {28, 960, 39}, {29, 960, 40}, {30, 960, 40},
            {28, 959, 20}, {48, 999, 40}};
        FountainDesk desk = new FountainDesk();
        for (int[] one : due) {
            EDGES.gets(desk, one[2], "row", one[0], packetOf(one[1], TURNS[one[0] - 1]), false);
        }
    }

    /** "the first d ones that are below L": if d is L, each place, so the greatest is L - 1. */
    private static void fullRowsHaveEveryPlace() {
        for (int k = 1; k <= 29; k++) {
            FountainDesk desk = new FountainDesk();
            int x = packetOf(960 + k, TURNS[k - 1]);
            EDGES.gets(desk, k + 11, "row", k, x, false);
            EDGES.gets(desk, k + 10, "row", k, x, true);
        }
    }

    /** "the least prime not below L": L itself (13, 59), the next (12, 58), and the farthest (24 to 29, 54 to 59). */
    private static void primesNotBelowL() {
        for (int k : new int[] {2, 48, 1, 47, 13, 43}) {
            FountainDesk desk = new FountainDesk();
            for (int x = 0; x < 200; x++) {
                TreeSet<Integer> due = PlainDesk.places(k, x, TURNS[k - 1]);
                EDGES.gets(desk, due.size(), "row", k, x, false);
                EDGES.gets(desk, due.last(), "row", k, x, true);
            }
        }
    }

    /** "INNER ones, 0 .. L - 1": rows with the first place alone, and with the last alone. */
    private static void placesFromFirstToLast() {
        int[][] due = {{1, 994, 0}, {1, 3890, 11}, {2, 1714, 0}, {2, 717, 12}, {48, 51752, 0}, {48, 980, 58}};
        FountainDesk desk = new FountainDesk();
        for (int[] one : due) {
            EDGES.gets(desk, 1, "row", one[0], one[1], false);
            EDGES.gets(desk, one[2], "row", one[0], one[1], true);
        }
    }

    /** "y = X + 65536 TURN": of the K with the greatest turn the first and the last packets. */
    private static void packetsOfALaterTurn() {
        FountainDesk desk = new FountainDesk();
        for (int x : new int[] {0, 1, 2, 3, 65532, 65533, 65534, 65535}) {
            TreeSet<Integer> due = PlainDesk.places(26, x, 4);
            EDGES.gets(desk, due.size(), "row", 26, x, false);
            EDGES.gets(desk, due.last(), "row", 26, x, true);
        }
    }

    /** "The turn of K is the least one, from 0 on, with which the eleven rows and those .. have full rank". */
    private static void turnsAreTheLeast() {
        FountainDesk up = new FountainDesk();
        FountainDesk down = new FountainDesk();
        for (int k = 1; k <= 48; k++) {
            EDGES.gets(up, TURNS[k - 1], "turn", k);
            EDGES.gets(down, TURNS[48 - k], "turn", 49 - k);
            EDGES.same("the model's turn of " + k, new PlainDesk().turn(k), TURNS[k - 1]);
        }
    }

    /** "a being 1 and ((j / 7 rounded down) modulo 6)": K where j / 7 first is 1, 5, 6, and a is 1 again. */
    private static void sumsGoRound() {
        for (int k : new int[] {7, 8, 14, 15, 35, 36, 42, 43, 48}) {
            FountainDesk desk = new FountainDesk();
            Desks.someBlock(desk, k, 1);
            PlainDesk plain = new PlainDesk();
            int[] bytes = Desks.someBytes(60);
            for (int i = 0; i < 60; i += 20) {
                plain.feed(word(bytes, i), word(bytes, i + 4), word(bytes, i + 8), word(bytes, i + 12),
                    word(bytes, i + 16));
            }
            plain.end(k);
            plain.block(k, 1);
            for (int x = k; x < k + 30; x++) {
                EDGES.gets(desk, plain.byteAt(x, 0), "byteAt", x, 0);
            }
        }
    }

    /** "What these eleven rows give is 0": so all packets of a block of 0s are 0. */
    private static void elevenRowsGiveZero() {
        FountainDesk desk = new FountainDesk();
        Desks.someBlock(desk, 48, 16);
        Desks.tape(desk, new int[768]);
        desk.block(48, 16);
        for (int x = 0; x < 65536; x += 327) {
            EDGES.gets(desk, 0, "byteAt", x, x % 16);
        }
    }

    /** "packet X, for X below K, is symbol X": the last one is, the next is the sum that its row tells. */
    private static void symbolsEndAtK() {
        FountainDesk desk = new FountainDesk();
        for (int k = 1; k <= 48; k++) {
            if (k % 20 == 0) {
                desk = new FountainDesk();
            }
            Desks.someBlock(desk, k, 2);
            EDGES.gets(desk, Desks.someBytes(2 * k)[2 * k - 2], "byteAt", k - 1, 0);
            EDGES.gets(desk, Desks.someBytes(2 * k)[2 * k - 1], "byteAt", k - 1, 1);
        }
        EDGES.gets(Desks.abcBlock(), 124, "byteAt", 4, 0);
    }

    /** "An object is used for at most 512 calls": the last of them is answered as the first was. */
    private static void longestRunOfTheDearestCalls() {
        FountainDesk desk = new FountainDesk();
        Desks.someBlock(desk, 48, 16);
        desk.open(48, 16);
        // So far 43 calls: 39 feeds, two ends, block and open.
        for (int call = 44; call + 2 < 512; call += 3) {
            desk.open(48, 16);
            EDGES.gets(desk, 48, "takeAll", 7 * call, 11, 100);
            EDGES.gets(desk, 48, "count", 6);
        }
        EDGES.gets(desk, 59, "rank");
    }

    private static int packetOf(int v, int turn) {
        int x = 0;
        while (PlainDesk.r(x + 65536L * turn, 0, 1000) != v) {
            x++;
        }
        return x;
    }

    private static int word(int[] bytes, int at) {
        return bytes[at] << 24 | bytes[at + 1] << 16 | bytes[at + 2] << 8 | bytes[at + 3];
    }
}
