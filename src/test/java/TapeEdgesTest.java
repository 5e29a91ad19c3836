/** Promises 1 (a new object), 2 (feed) and 3 (end) at their borders: a test for each sentence, which stands above it. */
public final class TapeEdgesTest {
    private static final Edges EDGES = new Edges();

    public static void main(String[] args) {
        newObjectHasAnEmptyTape();
        newObjectHasNoBlock();
        newObjectHasNoCatcher();
        feedTakesTheHighestFirst();
        feedTellsHowManyItHas();
        feedFillsTheTape();
        feedRefusesMoreThanFits();
        feedRefusesOneTooMany();
        fullTapeKeepsItsBytes();
        endKeepsTheFirstBytes();
        endForgetsTheOthers();
        endRefusesBelowZero();
        endRefusesMoreThanThereAre();
        EDGES.finish();
    }

    /** "An empty tape". */
    private static void newObjectHasAnEmptyTape() {
        EDGES.gets(new FountainDesk(), 0, "count", 0);
        EDGES.gets(new FountainDesk(), Edges.DONE, "end", 0);
        EDGES.refuses(FountainDesk::new, Edges.ARGUMENT, "end", 1);
        EDGES.refuses(FountainDesk::new, Edges.ARGUMENT, "block", 1, 1);
        EDGES.gets(new FountainDesk(), 20, "feed", 0, 0, 0, 0, 0);
    }

    /** "no block". */
    private static void newObjectHasNoBlock() {
        EDGES.gets(new FountainDesk(), 0, "count", 1);
        EDGES.gets(new FountainDesk(), 0, "count", 2);
        EDGES.refuses(FountainDesk::new, Edges.STATE, "byteAt", 0, 0);
    }

    /** "no catcher". */
    private static void newObjectHasNoCatcher() {
        for (int what = 3; what <= 6; what++) {
            EDGES.gets(new FountainDesk(), 0, "count", what);
        }
        EDGES.refuses(FountainDesk::new, Edges.STATE, "rank");
        EDGES.refuses(FountainDesk::new, Edges.STATE, "follows", 0);
        EDGES.refuses(FountainDesk::new, Edges.STATE, "known", 0, 0);
        EDGES.refuses(FountainDesk::new, Edges.STATE, "give", 0);
        EDGES.refuses(FountainDesk::new, Edges.STATE, "take", 0);
        EDGES.refuses(FountainDesk::new, Edges.STATE, "takeAll", 0, 1, 0);
    }

    /** "Twenty bytes more of the tape, the highest of each number first", of the least and the greatest number too. */
    private static void feedTakesTheHighestFirst() {
        FountainDesk desk = new FountainDesk();
        desk.feed(Integer.MIN_VALUE, Integer.MAX_VALUE, -2, 0x01020304, 0xFF000080);
        desk.block(10, 2);
        int[] due = {128, 0, 0, 0, 127, 255, 255, 255, 255, 255, 255, 254, 1, 2, 3, 4, 255, 0, 0, 128};
        for (int i = 0; i < 20; i++) {
            EDGES.gets(desk, due[i], "byteAt", i / 2, i % 2);
        }
    }

    /** "how many it has". */
    private static void feedTellsHowManyItHas() {
        FountainDesk desk = new FountainDesk();
        EDGES.gets(desk, 20, "feed", 0, 0, 0, 0, 0);
        EDGES.gets(desk, 40, "feed", 0, 0, 0, 0, 0);
        desk.end(1);
        EDGES.gets(desk, 21, "feed", 0, 0, 0, 0, 0);
        desk.end(0);
        EDGES.gets(desk, 20, "feed", 0, 0, 0, 0, 0);
        desk.block(2, 10);
        EDGES.gets(desk, 20, "feed", 0, 0, 0, 0, 0);
    }

    /** "more than 800": 800 themselves are fine, by whichever feeds they come. */
    private static void feedFillsTheTape() {
        FountainDesk desk = new FountainDesk();
        for (int n = 20; n <= 800; n += 20) {
            EDGES.gets(desk, n, "feed", n, n, n, n, n);
        }
        EDGES.gets(desk, 800, "count", 0);
        EDGES.gets(Desks.tapeOf(780), 800, "feed", 1, 1, 1, 1, 1);
        EDGES.gets(Desks.tapeOf(779), 799, "feed", 1, 1, 1, 1, 1);
    }

    /** "UnsupportedOperationException: they would be more than 800", from a full tape. */
    private static void feedRefusesMoreThanFits() {
        EDGES.refuses(() -> Desks.tapeOf(800), Edges.SUPPORT, "feed", 1, 1, 1, 1, 1);
        EDGES.refuses(() -> Desks.tapeOf(800), Edges.SUPPORT, "feed", 0, 0, 0, 0, 0);
        EDGES.refuses(() -> Desks.tapeOf(799), Edges.SUPPORT, "feed", 1, 1, 1, 1, 1);
    }

    /** "UnsupportedOperationException: they would be more than 800", by one. */
    private static void feedRefusesOneTooMany() {
        EDGES.refuses(() -> Desks.tapeOf(781), Edges.SUPPORT, "feed", 1, 1, 1, 1, 1);
        FountainDesk desk = Desks.tapeOf(781);
        EDGES.gets(desk, Edges.SUPPORT, "feed", 1, 1, 1, 1, 1);
        EDGES.gets(desk, 781, "count", 0);
        desk.end(780);
        EDGES.gets(desk, 800, "feed", 1, 1, 1, 1, 1);
    }

    /** "A call that throws changes nothing": each byte of the tape that a block can tell. */
    private static void fullTapeKeepsItsBytes() {
        int[] due = Desks.someBytes(768);
        for (int half = 0; half < 2; half++) {
            FountainDesk desk = Desks.tapeOf(800);
            EDGES.gets(desk, Edges.SUPPORT, "feed", -1, -1, -1, -1, -1);
            desk.end(768);
            desk.block(48, 16);
            for (int at = 384 * half; at < 384 * half + 384; at++) {
                EDGES.gets(desk, due[at], "byteAt", at / 16, at % 16);
            }
        }
    }

    /** "The tape keeps its first n bytes", of none, of one, and of all. */
    private static void endKeepsTheFirstBytes() {
        for (int n : new int[] {0, 1, 19, 20}) {
            FountainDesk desk = Desks.tapeOf(20);
            EDGES.gets(desk, Edges.DONE, "end", n);
            EDGES.gets(desk, n, "count", 0);
        }
        EDGES.leaves(() -> Desks.tapeOf(20), "end", 20);
        EDGES.leaves(() -> Desks.tapeOf(800), "end", 800);
        EDGES.leaves(FountainDesk::new, "end", 0);
        EDGES.leaves(Desks::abcDesk, "end", 0);
        FountainDesk desk = Desks.tapeOf(20);
        desk.end(7);
        desk.block(7, 1);
        for (int x = 0; x < 7; x++) {
            EDGES.gets(desk, Desks.someBytes(7)[x], "byteAt", x, 0);
        }
    }

    /** "The tape keeps its first n bytes": what is fed then stands behind these. */
    private static void endForgetsTheOthers() {
        FountainDesk desk = Desks.tapeOf(20);
        desk.end(1);
        desk.feed(0x0A0B0C0D, 0, 0, 0, 0);
        desk.end(3);
        desk.block(3, 1);
        EDGES.gets(desk, Desks.someBytes(1)[0], "byteAt", 0, 0);
        EDGES.gets(desk, 10, "byteAt", 1, 0);
        EDGES.gets(desk, 11, "byteAt", 2, 0);
    }

    /** "IllegalArgumentException: n is below 0". */
    private static void endRefusesBelowZero() {
        for (int n : new int[] {-1, -20, Integer.MIN_VALUE}) {
            EDGES.refuses(() -> Desks.tapeOf(20), Edges.ARGUMENT, "end", n);
            EDGES.refuses(FountainDesk::new, Edges.ARGUMENT, "end", n);
        }
    }

    /** "or it has not so many". */
    private static void endRefusesMoreThanThereAre() {
        EDGES.refuses(() -> Desks.tapeOf(20), Edges.ARGUMENT, "end", 21);
        EDGES.refuses(() -> Desks.tapeOf(20), Edges.ARGUMENT, "end", Integer.MAX_VALUE);
        EDGES.refuses(() -> Desks.tapeOf(19), Edges.ARGUMENT, "end", 20);
        EDGES.refuses(() -> Desks.tapeOf(800), Edges.ARGUMENT, "end", 801);
        EDGES.refuses(Desks::abcDesk, Edges.ARGUMENT, "end", 1);
    }
}
