/** Promises 4 (turn), 5 (block), 6 (byteAt), 7 (row) and 15 (product) at their borders: a test for each sentence. */
public final class BlockEdgesTest {
    private static final Edges EDGES = new Edges();

    public static void main(String[] args) {
        turnOfTheLeastAndTheGreatest();
        turnRefusesNoSuchK();
        blockOfTheLeastAndTheGreatest();
        blockEmptiesTheTape();
        blockHasItsSymbolsOneBehindTheOther();
        blockTakesTheOldOnesPlace();
        blockLeavesTheCatcher();
        blockRefusesNoSuchK();
        blockRefusesNoSuchT();
        blockRefusesTooShortATape();
        blockRefusesTooLongATape();
        blockRefusesProductsThatWrap();
        byteAtOfTheFirstAndTheLast();
        byteAtRefusesWithoutABlock();
        byteAtRefusesNoSuchPacket();
        byteAtRefusesNoSuchByte();
        rowOfTheFirstAndTheLast();
        rowRefusesNoSuchK();
        rowRefusesNoSuchPacket();
        rowAsksForKFirst();
        productOfTheLeastAndTheGreatest();
        productOfTheLowestEightBits();
        EDGES.finish();
    }

    /** "The turn of K", of 1 and of 48; it asks for no block. */
    private static void turnOfTheLeastAndTheGreatest() {
        EDGES.gets(new FountainDesk(), 0, "turn", 1);
        EDGES.gets(new FountainDesk(), 0, "turn", 48);
        EDGES.leaves(Desks::abcDesk, "turn", 1);
        EDGES.leaves(Desks::abcDesk, "turn", 48);
    }

    /** "IllegalArgumentException: there is no such K." */
    private static void turnRefusesNoSuchK() {
        for (int k : Desks.NO_SYMBOLS) {
            EDGES.refuses(FountainDesk::new, Edges.ARGUMENT, "turn", k);
            EDGES.refuses(BlockEdgesTest::blockAndTape, Edges.ARGUMENT, "turn", k);
        }
    }

    /** "K SYMBOLS (1 .. 48) of T bytes each (1 .. 16)": all four corners are blocks. */
    private static void blockOfTheLeastAndTheGreatest() {
        for (int k : new int[] {1, 48}) {
            for (int t : new int[] {1, 16}) {
                FountainDesk desk = new FountainDesk();
                int[] bytes = Desks.someBytes(k * t);
                Desks.tape(desk, bytes);
                EDGES.gets(desk, Edges.DONE, "block", k, t);
                EDGES.gets(desk, k, "count", 1);
                EDGES.gets(desk, t, "count", 2);
                EDGES.gets(desk, bytes[0], "byteAt", 0, 0);
                EDGES.gets(desk, bytes[t - 1], "byteAt", 0, t - 1);
                EDGES.gets(desk, bytes[k * t - t], "byteAt", k - 1, 0);
                EDGES.gets(desk, bytes[k * t - 1], "byteAt", k - 1, t - 1);
            }
        }
    }

    /** "The tape (which is empty then)". */
    private static void blockEmptiesTheTape() {
        FountainDesk desk = blockAndTape();
        desk.block(10, 2);
        EDGES.gets(desk, 0, "count", 0);
        EDGES.gets(desk, Edges.ARGUMENT, "end", 1);
        EDGES.gets(desk, Edges.ARGUMENT, "block", 10, 2);
        EDGES.gets(desk, 20, "feed", 0, 0, 0, 0, 0);
    }

    /** "a block of K symbols, one behind the other": the same tape cut in all ways. */
    private static void blockHasItsSymbolsOneBehindTheOther() {
        for (int k : new int[] {48, 24, 16, 12, 8, 6, 4, 3}) {
            FountainDesk desk = new FountainDesk();
            int t = 48 / k;
            Desks.someBlock(desk, k, t);
            for (int at = 0; at < 48; at++) {
                EDGES.gets(desk, Desks.someBytes(48)[at], "byteAt", at / t, at % t);
            }
        }
    }

    /** "The tape is a block": of the one before nothing is left. */
    private static void blockTakesTheOldOnesPlace() {
        FountainDesk desk = new FountainDesk();
        Desks.someBlock(desk, 48, 16);
        Desks.someBlock(desk, 1, 1);
        FountainDesk fresh = new FountainDesk();
        Desks.someBlock(fresh, 1, 1);
        for (int x = 0; x < 65536; x += 655) {
            EDGES.gets(desk, fresh.byteAt(x, 0), "byteAt", x, 0);
        }
        EDGES.gets(desk, Edges.INDEX, "byteAt", 0, 1);
        EDGES.gets(desk, 1, "count", 1);
        EDGES.gets(desk, 1, "count", 2);
    }

    /** What is caught is the catcher's: a new block, of its K and T or of others, changes nothing of it. */
    private static void blockLeavesTheCatcher() {
        for (int k : new int[] {4, 12}) {
            FountainDesk desk = Desks.abcDesk();
            desk.take(1);
            Desks.someBlock(desk, k, 12 / k);
            int[] due = {0, k, 12 / k, 4, 3, 1, 1};
            for (int what = 0; what <= 6; what++) {
                EDGES.gets(desk, due[what], "count", what);
            }
            EDGES.gets(desk, 12, "rank");
            EDGES.gets(desk, (int) 'd', "known", 1, 0);
        }
    }

    /** "IllegalArgumentException: there is no such K". */
    private static void blockRefusesNoSuchK() {
        for (int k : Desks.NO_SYMBOLS) {
            EDGES.refuses(BlockEdgesTest::blockAndTape, Edges.ARGUMENT, "block", k, 1);
            EDGES.refuses(FountainDesk::new, Edges.ARGUMENT, "block", k, 1);
        }
        EDGES.refuses(() -> Desks.tapeOf(49), Edges.ARGUMENT, "block", 49, 1);
        EDGES.refuses(() -> Desks.tapeOf(784), Edges.ARGUMENT, "block", 49, 16);
        EDGES.refuses(FountainDesk::new, Edges.ARGUMENT, "block", 0, 16);
    }

    /** "or T". */
    private static void blockRefusesNoSuchT() {
        for (int t : Desks.NO_BYTES) {
            EDGES.refuses(BlockEdgesTest::blockAndTape, Edges.ARGUMENT, "block", 1, t);
            EDGES.refuses(FountainDesk::new, Edges.ARGUMENT, "block", 1, t);
        }
        EDGES.refuses(() -> Desks.tapeOf(17), Edges.ARGUMENT, "block", 1, 17);
        EDGES.refuses(() -> Desks.tapeOf(799), Edges.ARGUMENT, "block", 47, 17);
        EDGES.refuses(FountainDesk::new, Edges.ARGUMENT, "block", 48, 0);
    }

    /** "or the tape has not K times T bytes": one too few, or none at all. */
    private static void blockRefusesTooShortATape() {
        EDGES.refuses(() -> Desks.tapeOf(11), Edges.ARGUMENT, "block", 4, 3);
        EDGES.refuses(() -> Desks.tapeOf(767), Edges.ARGUMENT, "block", 48, 16);
        EDGES.refuses(FountainDesk::new, Edges.ARGUMENT, "block", 1, 1);
        EDGES.refuses(Desks::abcDesk, Edges.ARGUMENT, "block", 4, 3);
        EDGES.refuses(BlockEdgesTest::blockAndTape, Edges.ARGUMENT, "block", 3, 7);
    }

    /** "or the tape has not K times T bytes": one too many, or a full tape. */
    private static void blockRefusesTooLongATape() {
        EDGES.refuses(() -> Desks.tapeOf(13), Edges.ARGUMENT, "block", 4, 3);
        EDGES.refuses(() -> Desks.tapeOf(2), Edges.ARGUMENT, "block", 1, 1);
        EDGES.refuses(() -> Desks.tapeOf(769), Edges.ARGUMENT, "block", 48, 16);
        EDGES.refuses(() -> Desks.tapeOf(800), Edges.ARGUMENT, "block", 48, 16);
        EDGES.refuses(BlockEdgesTest::blockAndTape, Edges.ARGUMENT, "block", 19, 1);
    }

    /** "there is no such K or T", though their product is just as long as the tape. */
    private static void blockRefusesProductsThatWrap() {
        EDGES.refuses(BlockEdgesTest::blockAndTape, Edges.ARGUMENT, "block", -4, -5);
        EDGES.refuses(BlockEdgesTest::blockAndTape, Edges.ARGUMENT, "block", -20, -1);
        EDGES.refuses(BlockEdgesTest::blockAndTape, Edges.ARGUMENT, "block", 1, 20);
        EDGES.refuses(BlockEdgesTest::blockAndTape, Edges.ARGUMENT, "block", 0x40000005, 4);
        EDGES.refuses(BlockEdgesTest::blockAndTape, Edges.ARGUMENT, "block", 4, 0x40000005);
        EDGES.refuses(FountainDesk::new, Edges.ARGUMENT, "block", 65536, 65536);
        EDGES.refuses(FountainDesk::new, Edges.ARGUMENT, "block", 0, 0);
    }

    /** "Byte i of packet x of the block", at 0 and 65535, 0 and T - 1, the last symbol and the first that is none. */
    private static void byteAtOfTheFirstAndTheLast() {
        FountainDesk desk = Desks.abcBlock();
        EDGES.gets(desk, (int) 'a', "byteAt", 0, 0);
        EDGES.gets(desk, (int) 'c', "byteAt", 0, 2);
        EDGES.gets(desk, (int) 'l', "byteAt", 3, 2);
        EDGES.gets(desk, 124, "byteAt", 4, 0);
        EDGES.gets(desk, 153, "byteAt", 65535, 2);
        EDGES.leaves(BlockEdgesTest::blockAndTape, "byteAt", 65535, 2);
    }

    /** "IllegalStateException: there is no block", which is named before the packet and the byte. */
    private static void byteAtRefusesWithoutABlock() {
        for (int x : new int[] {-1, 0, 65535, 65536}) {
            for (int i : new int[] {-1, 0, 15, 16}) {
                EDGES.refuses(FountainDesk::new, Edges.STATE, "byteAt", x, i);
                EDGES.refuses(BlockEdgesTest::catcherAndTape, Edges.STATE, "byteAt", x, i);
            }
        }
    }

    /** "IndexOutOfBoundsException: no such packet". */
    private static void byteAtRefusesNoSuchPacket() {
        for (int x : Desks.NO_PACKETS) {
            EDGES.refuses(BlockEdgesTest::blockAndTape, Edges.INDEX, "byteAt", x, 0);
            EDGES.refuses(BlockEdgesTest::blockAndTape, Edges.INDEX, "byteAt", x, 3);
        }
    }

    /** "or byte": T is the block's, though the catcher has more and the row of the block's bytes could hold more. */
    private static void byteAtRefusesNoSuchByte() {
        for (int i : new int[] {-1, 3, 15, 16, Integer.MIN_VALUE, Integer.MAX_VALUE}) {
            EDGES.refuses(BlockEdgesTest::blockAndTape, Edges.INDEX, "byteAt", 0, i);
            EDGES.refuses(BlockEdgesTest::blockAndWiderCatcher, Edges.INDEX, "byteAt", 65535, i);
        }
        FountainDesk wide = new FountainDesk();
        Desks.someBlock(wide, 2, 16);
        EDGES.gets(wide, Desks.someBytes(16)[15], "byteAt", 0, 15);
        EDGES.gets(wide, Edges.INDEX, "byteAt", 0, 16);
    }

    /** "How many places packet x has in its row for K; or (place true) the greatest of them", at all corners. */
    private static void rowOfTheFirstAndTheLast() {
        FountainDesk desk = new FountainDesk();
        int[][] corners = {{1, 0}, {1, 65535}, {48, 0}, {48, 65535}};
        PlainDesk plain = new PlainDesk();
        for (int[] corner : corners) {
            EDGES.gets(desk, plain.row(corner[0], corner[1], false), "row", corner[0], corner[1], false);
            EDGES.gets(desk, plain.row(corner[0], corner[1], true), "row", corner[0], corner[1], true);
        }
        EDGES.gets(desk, 2, "row", 1, 0, false);
        EDGES.gets(desk, 5, "row", 1, 0, true);
        EDGES.gets(desk, 2, "row", 48, 65535, false);
        EDGES.leaves(BlockEdgesTest::blockAndTape, "row", 48, 65535, true);
    }

    /** "IllegalArgumentException: there is no such K". */
    private static void rowRefusesNoSuchK() {
        for (int k : Desks.NO_SYMBOLS) {
            EDGES.refuses(BlockEdgesTest::blockAndTape, Edges.ARGUMENT, "row", k, 0, false);
            EDGES.refuses(FountainDesk::new, Edges.ARGUMENT, "row", k, 65535, true);
        }
    }

    /** "IndexOutOfBoundsException: no such packet." */
    private static void rowRefusesNoSuchPacket() {
        for (int x : Desks.NO_PACKETS) {
            EDGES.refuses(BlockEdgesTest::blockAndTape, Edges.INDEX, "row", 1, x, false);
            EDGES.refuses(FountainDesk::new, Edges.INDEX, "row", 48, x, true);
        }
    }

    /** "the one named first when several would do". */
    private static void rowAsksForKFirst() {
        for (int x : Desks.NO_PACKETS) {
            EDGES.refuses(FountainDesk::new, Edges.ARGUMENT, "row", 0, x, false);
            EDGES.refuses(FountainDesk::new, Edges.ARGUMENT, "row", 49, x, true);
        }
    }

    /** "The product of two bytes", with 0, with 1, and where the modulus is first needed. */
    private static void productOfTheLeastAndTheGreatest() {
        FountainDesk desk = new FountainDesk();
        for (int b : new int[] {0, 1, 2, 127, 128, 254, 255}) {
            EDGES.gets(desk, 0, "product", 0, b);
            EDGES.gets(desk, 0, "product", b, 0);
            EDGES.gets(desk, b, "product", 1, b);
            EDGES.gets(desk, b, "product", b, 1);
        }
        EDGES.gets(desk, 254, "product", 2, 127);
        EDGES.gets(desk, 29, "product", 2, 128);
        EDGES.gets(desk, 29, "product", 128, 2);
        EDGES.gets(desk, 226, "product", 255, 255);
        EDGES.leaves(BlockEdgesTest::blockAndTape, "product", 255, 255);
    }

    /** "(the lowest eight bits of each)". */
    private static void productOfTheLowestEightBits() {
        FountainDesk desk = new FountainDesk();
        EDGES.gets(desk, 0, "product", 256, 255);
        EDGES.gets(desk, 0, "product", 255, 256);
        EDGES.gets(desk, 255, "product", 257, 255);
        EDGES.gets(desk, 255, "product", 255, 257);
        EDGES.gets(desk, 226, "product", -1, -1);
        EDGES.gets(desk, 0, "product", Integer.MIN_VALUE, Integer.MAX_VALUE);
        EDGES.gets(desk, 0, "product", Integer.MAX_VALUE, Integer.MIN_VALUE);
        EDGES.gets(desk, 226, "product", Integer.MAX_VALUE, Integer.MAX_VALUE);
        EDGES.gets(desk, 29, "product", -254, -128);
    }

    /** A block of 4 symbols of 3 bytes, and twenty bytes on the tape. */
    private static FountainDesk blockAndTape() {
        FountainDesk desk = Desks.abcBlock();
        Desks.tape(desk, Desks.someBytes(20));
        return desk;
    }

    private static FountainDesk blockAndWiderCatcher() {
        FountainDesk desk = blockAndTape();
        desk.open(4, 16);
        return desk;
    }

    private static FountainDesk catcherAndTape() {
        FountainDesk desk = Desks.tapeOf(3);
        desk.open(4, 3);
        return desk;
    }
}
