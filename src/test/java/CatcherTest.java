/**
 * Promises 8 (open), 9 (take), 10 (takeAll), 11 (give), 12 (rank), 13 (follows), 14 (known), and 16
 * (count) of a catcher.
 */
public final class CatcherTest {
    private static final Check CHECK = new Check();
    private static final int[] NO_PACKETS = {-1, 65536, Integer.MIN_VALUE, Integer.MAX_VALUE};

    public static void main(String[] args) {
        openStartsAnew();
        opensThatAreNot();
        takeUntilAllFollow();
        takesThatAreNot();
        takeRefuses();
        takeAllGrows();
        takeAllGoesRound();
        takeAllStopsWhenRefused();
        takeAllsThatAreNot();
        giveCatchesTheTape();
        giveNeedsNoBlock();
        giveRefuses();
        givesThatAreNot();
        ranks();
        followsWithoutBeingCaught();
        followsThatAreNot();
        knownTellsBytes();
        knownAsksInOrder();
        countsOfTheCatcher();
        CHECK.finish();
    }

    private static void openStartsAnew() {
        FountainDesk desk = abcDesk();
        CHECK.same("count(3)", desk.count(3), 4);
        CHECK.same("count(4)", desk.count(4), 3);
        desk.takeAll(0, 1, 4);
        desk.open(4, 3);
        CHECK.same("opened again: rank", desk.rank(), 11);
        CHECK.same("opened again: caught", desk.count(5), 0);
        CHECK.same("opened again: follow", desk.count(6), 0);
        CHECK.same("opened again: follows(0)", desk.follows(0), false);
        CHECK.same("opened again: the block stays", desk.byteAt(0, 0), 97);
        desk.open(48, 16);
        CHECK.same("opened wider: count(3)", desk.count(3), 48);
        CHECK.same("opened wider: count(4)", desk.count(4), 16);
        CHECK.same("opened wider: rank", desk.rank(), 11);
    }

    private static void opensThatAreNot() {
        FountainDesk desk = abcDesk();
        desk.take(2);
        for (int k : new int[] {0, 49, -1, Integer.MIN_VALUE, Integer.MAX_VALUE}) {
            CHECK.refuses("open(" + k + ", 1)", IllegalArgumentException.class, () -> desk.open(k, 1));
        }
        for (int t : new int[] {0, 17, -1, Integer.MIN_VALUE, Integer.MAX_VALUE}) {
            CHECK.refuses("open(1, " + t + ")", IllegalArgumentException.class, () -> desk.open(1, t));
        }
        CHECK.same("the catcher stays: rank", desk.rank(), 12);
        CHECK.same("the catcher stays: K", desk.count(3), 4);
        CHECK.same("the catcher stays: T", desk.count(4), 3);
        CHECK.same("the catcher stays: bytes", desk.known(2, 0), 'g');
    }

    private static void takeUntilAllFollow() {
        FountainDesk desk = abcDesk();
        CHECK.same("take(0)", desk.take(0), true);
        CHECK.same("take(0) again", desk.take(0), false);
        CHECK.same("caught twice", desk.count(5), 2);
        CHECK.same("take(1)", desk.take(1), true);
        CHECK.same("take(2)", desk.take(2), true);
        CHECK.same("take(3)", desk.take(3), true);
        CHECK.same("take(65535)", desk.take(65535), false);
        CHECK.same("caught", desk.count(5), 6);
        CHECK.same("rank", desk.rank(), 15);
    }

    private static void takesThatAreNot() {
        FountainDesk desk = new FountainDesk();
        CHECK.refuses("neither: take(-1)", IllegalStateException.class, () -> desk.take(-1));
        desk.open(4, 3);
        CHECK.refuses("no block: take(0)", IllegalStateException.class, () -> desk.take(0));
        FountainDesk other = abcBlock();
        CHECK.refuses("no catcher: take(0)", IllegalStateException.class, () -> other.take(0));
        other.open(4, 2);
        CHECK.refuses("other T: take(-1)", IllegalStateException.class, () -> other.take(-1));
        other.open(3, 3);
        CHECK.refuses("other K: take(0)", IllegalStateException.class, () -> other.take(0));
        other.open(3, 4);
        CHECK.refuses("K and T the other way: take(0)", IllegalStateException.class, () -> other.take(0));
        other.open(4, 3);
        for (int x : NO_PACKETS) {
            CHECK.refuses("take(" + x + ")", IndexOutOfBoundsException.class, () -> other.take(x));
        }
        CHECK.same("nothing was caught", other.count(5), 0);
        CHECK.same("rank", other.rank(), 11);
    }

    private static void takeRefuses() {
        FountainDesk desk = abcDesk();
        desk.take(1);
        otherBlock(desk);
        CHECK.refuses("take(1) of another block", UnsupportedOperationException.class, () -> desk.take(1));
        CHECK.same("refused: caught", desk.count(5), 1);
        CHECK.same("refused: rank", desk.rank(), 12);
        CHECK.same("refused: known(1, 0)", desk.known(1, 0), 'd');
        CHECK.same("take(0) of another block", desk.take(0), true);
        CHECK.same("its byte", desk.known(0, 0), 201);
    }

    private static void takeAllGrows() {
        FountainDesk desk = abcDesk();
        CHECK.same("takeAll(0, 1, 0)", desk.takeAll(0, 1, 0), 0);
        CHECK.same("none caught", desk.count(5), 0);
        desk.take(0);
        CHECK.same("takeAll(100, 1, 3)", desk.takeAll(100, 1, 3), 2);
        CHECK.same("rank", desk.rank(), 14);
        CHECK.same("takeAll(200, 7, 4)", desk.takeAll(200, 7, 4), 1);
        CHECK.same("rank", desk.rank(), 15);
        CHECK.same("caught", desk.count(5), 8);
        CHECK.same("takeAll(60000, 997, 100)", desk.takeAll(60000, 997, 100), 0);
        CHECK.same("caught", desk.count(5), 108);
        for (int i = 0; i < 12; i++) {
            CHECK.same("all came through: " + i, desk.known(i / 3, i % 3), 97 + i);
        }
    }

    private static void takeAllGoesRound() {
        int[][] rounds = {{65534, 1}, {3, -1}, {0, 65537}, {2, -65537}, {0, Integer.MAX_VALUE},
            {5, Integer.MIN_VALUE}, {65535, Integer.MAX_VALUE}, {65535, 65535}, {0, 0}};
        for (int[] round : rounds) {
            FountainDesk desk = abcDesk();
            FountainDesk oneByOne = abcDesk();
            int grown = 0;
            for (long i = 0; i < 5; i++) {
                grown += oneByOne.take((int) Math.floorMod(round[0] + i * round[1], 65536L)) ? 1 : 0;
            }
            String what = "takeAll(" + round[0] + ", " + round[1] + ", 5)";
            CHECK.same(what, desk.takeAll(round[0], round[1], 5), grown);
            for (int x = 0; x < 200; x++) {
                CHECK.same(what + ", follows(" + x + ")", desk.follows(x), oneByOne.follows(x));
            }
        }
        FountainDesk desk = abcDesk();
        CHECK.same("the same one over and over", desk.takeAll(2, 65536, 100), 1);
        CHECK.same("caught each time", desk.count(5), 100);
    }

    private static void takeAllStopsWhenRefused() {
        FountainDesk desk = abcDesk();
        desk.take(1);
        otherBlock(desk);
        CHECK.same("takeAll(0, 1, 4), 1 being refused", desk.takeAll(0, 1, 4), 1);
        CHECK.same("caught until then", desk.count(5), 2);
        CHECK.same("rank", desk.rank(), 13);
        CHECK.same("0 was caught", desk.known(0, 0), 201);
        CHECK.same("1 stays", desk.known(1, 0), 'd');
        CHECK.same("2 was not reached", desk.follows(2), false);
        CHECK.same("takeAll(1, 1, 4), the first being refused", desk.takeAll(1, 1, 4), 0);
        CHECK.same("rank stays", desk.rank(), 13);
    }

    private static void takeAllsThatAreNot() {
        FountainDesk none = new FountainDesk();
        CHECK.refuses("neither: takeAll", IllegalStateException.class, () -> none.takeAll(-1, 1, -1));
        FountainDesk desk = abcBlock();
        CHECK.refuses("no catcher: takeAll", IllegalStateException.class, () -> desk.takeAll(0, 1, 1));
        desk.open(3, 3);
        CHECK.refuses("other K: takeAll", IllegalStateException.class, () -> desk.takeAll(0, 1, 1));
        desk.open(4, 4);
        CHECK.refuses("other T: takeAll", IllegalStateException.class, () -> desk.takeAll(0, 1, 0));
        desk.open(4, 3);
        for (int x : NO_PACKETS) {
            CHECK.refuses("takeAll(" + x + ", 1, 101)", IndexOutOfBoundsException.class,
                () -> desk.takeAll(x, 1, 101));
            CHECK.refuses("takeAll(" + x + ", 1, 0)", IndexOutOfBoundsException.class, () -> desk.takeAll(x, 1, 0));
        }
        for (int n : new int[] {-1, 101, Integer.MIN_VALUE, Integer.MAX_VALUE}) {
            CHECK.refuses("takeAll(0, 1, " + n + ")", IllegalArgumentException.class, () -> desk.takeAll(0, 1, n));
        }
        CHECK.same("nothing was caught", desk.count(5), 0);
        CHECK.same("takeAll(0, 1, 100)", desk.takeAll(0, 1, 100), 4);
    }

    private static void giveCatchesTheTape() {
        FountainDesk desk = abcDesk();
        desk.take(0);
        desk.feed('d' << 24 | 'e' << 16 | 'f' << 8, 0, 0, 0, 0);
        desk.end(3);
        CHECK.same("give(1)", desk.give(1), true);
        CHECK.same("the tape is empty", desk.count(0), 0);
        CHECK.same("caught", desk.count(5), 2);
        desk.feed('d' << 24 | 'e' << 16 | 'f' << 8, 0, 0, 0, 0);
        desk.end(3);
        CHECK.same("give(1) again", desk.give(1), false);
        CHECK.same("the tape is empty again", desk.count(0), 0);
        CHECK.same("caught again", desk.count(5), 3);
        CHECK.same("takeAll(2, 1, 2)", desk.takeAll(2, 1, 2), 2);
        CHECK.same("all goes with the block", desk.known(777, 2), desk.byteAt(777, 2));
    }

    private static void giveNeedsNoBlock() {
        FountainDesk desk = new FountainDesk();
        desk.open(1, 16);
        desk.feed(0x01020304, 0x05060708, 0x090A0B0C, 0x0D0E0F10, 0);
        desk.end(16);
        CHECK.same("give(0)", desk.give(0), true);
        for (int i = 0; i < 16; i++) {
            CHECK.same("known(0, " + i + ")", desk.known(0, i), i + 1);
        }
        CHECK.same("one symbol is all", desk.rank(), 12);
        CHECK.same("so all follow", desk.follows(65535), true);
    }

    private static void giveRefuses() {
        FountainDesk desk = abcDesk();
        desk.take(0);
        desk.feed(0x61626400, 0, 0, 0, 0);
        desk.end(3);
        CHECK.refuses("give(0) with its last byte changed", UnsupportedOperationException.class, () -> desk.give(0));
        CHECK.same("refused: the tape stays", desk.count(0), 3);
        CHECK.same("refused: caught", desk.count(5), 1);
        CHECK.same("refused: rank", desk.rank(), 12);
        CHECK.same("give(1) of the same tape", desk.give(1), true);
        CHECK.same("its last byte", desk.known(1, 2), 'd');
        CHECK.same("the others stay", desk.known(0, 2), 'c');
    }

    private static void givesThatAreNot() {
        FountainDesk none = abcBlock();
        CHECK.refuses("no catcher: give(-1)", IllegalStateException.class, () -> none.give(-1));
        FountainDesk desk = abcDesk();
        for (int x : NO_PACKETS) {
            CHECK.refuses("give(" + x + ")", IndexOutOfBoundsException.class, () -> desk.give(x));
        }
        CHECK.refuses("give(0) of nothing", IllegalArgumentException.class, () -> desk.give(0));
        desk.take(0);
        desk.feed(0, 0, 0, 0, 0);
        desk.end(4);
        CHECK.refuses("give(0) of one too many", IllegalArgumentException.class, () -> desk.give(0));
        desk.end(2);
        CHECK.refuses("give(0) of one too few", IllegalArgumentException.class, () -> desk.give(0));
        CHECK.same("the tape stays", desk.count(0), 2);
        CHECK.same("caught stays", desk.count(5), 1);
    }

    private static void ranks() {
        FountainDesk desk = new FountainDesk();
        CHECK.refuses("rank without a catcher", IllegalStateException.class, desk::rank);
        for (int k = 1; k <= 48; k++) {
            desk.open(k, 1);
            CHECK.same("rank from the start, K " + k, desk.rank(), 11);
            feedSome(desk, k);
            desk.block(k, 1);
            for (int x = 0; x < k; x++) {
                desk.take(x);
            }
            CHECK.same("rank in the end, K " + k, desk.rank(), k + 11);
            if (k % 6 == 0) {
                desk = new FountainDesk();
            }
        }
    }

    private static void followsWithoutBeingCaught() {
        for (int k : new int[] {1, 2, 5, 7, 20, 48}) {
            FountainDesk desk = new FountainDesk();
            PlainDesk plain = new PlainDesk();
            desk.open(k, 1);
            plain.open(k, 1);
            feedSome(desk, k);
            desk.block(k, 1);
            while (plain.rank() < k + 11) {
                int x = 1000 + 31 * plain.rank() + plain.count(5);
                plain.feed(desk.byteAt(x, 0) << 24, 0, 0, 0, 0);
                plain.end(1);
                String what = "K " + k + ", take(" + x + ")";
                CHECK.same(what, desk.take(x), plain.give(x));
                CHECK.same(what + ", count(6)", desk.count(6), plain.count(6));
                for (int y = x % 50; y < x % 50 + 4; y++) {
                    CHECK.same(what + ", follows(" + y + ")", desk.follows(y), plain.follows(y));
                }
            }
            for (int y = 0; y < 30; y++) {
                CHECK.same("K " + k + ", all follow: known(" + y + ", 0)", desk.known(y, 0), desk.byteAt(y, 0));
            }
        }
    }

    private static void followsThatAreNot() {
        FountainDesk none = abcBlock();
        CHECK.refuses("no catcher: follows(-1)", IllegalStateException.class, () -> none.follows(-1));
        FountainDesk desk = abcDesk();
        for (int x : NO_PACKETS) {
            CHECK.refuses("follows(" + x + ")", IndexOutOfBoundsException.class, () -> desk.follows(x));
        }
    }

    private static void knownTellsBytes() {
        FountainDesk desk = abcDesk();
        desk.take(3);
        CHECK.same("known(3, 0)", desk.known(3, 0), 'j');
        CHECK.same("known(3, 2)", desk.known(3, 2), 'l');
        desk.takeAll(500, 3, 20);
        for (int x = 0; x <= 65535; x += 997) {
            for (int i = 0; i < 3; i++) {
                CHECK.same("known(" + x + ", " + i + ")", desk.known(x, i), desk.byteAt(x, i));
            }
        }
    }

    private static void knownAsksInOrder() {
        FountainDesk none = abcBlock();
        CHECK.refuses("no catcher: known(-1, 0)", IllegalStateException.class, () -> none.known(-1, 0));
        FountainDesk desk = abcDesk();
        desk.take(0);
        for (int x : NO_PACKETS) {
            CHECK.refuses("known(" + x + ", 9)", IndexOutOfBoundsException.class, () -> desk.known(x, 9));
        }
        CHECK.refuses("does not follow: known(1, 0)", IllegalStateException.class, () -> desk.known(1, 0));
        CHECK.refuses("does not follow: known(1, 3)", IllegalStateException.class, () -> desk.known(1, 3));
        for (int i : new int[] {-1, 3, Integer.MIN_VALUE, Integer.MAX_VALUE}) {
            CHECK.refuses("known(0, " + i + ")", IndexOutOfBoundsException.class, () -> desk.known(0, i));
        }
    }

    private static void countsOfTheCatcher() {
        FountainDesk desk = abcDesk();
        int[] due = {0, 4, 3, 4, 3, 0, 0};
        for (int what = 0; what <= 6; what++) {
            CHECK.same("opened: count(" + what + ")", desk.count(what), due[what]);
        }
        desk.take(0);
        desk.take(2);
        desk.take(2);
        CHECK.same("caught", desk.count(5), 3);
        CHECK.same("symbols that follow", desk.count(6), 2);
        otherBlock(desk);
        desk.feed(1, 2, 3, 4, 5);
        CHECK.same("the catcher outlives the block: caught", desk.count(5), 3);
        CHECK.same("the catcher outlives the block: follow", desk.count(6), 2);
        desk.block(10, 2);
        int[] later = {0, 10, 2, 4, 3, 3, 2};
        for (int what = 0; what <= 6; what++) {
            CHECK.same("another block: count(" + what + ")", desk.count(what), later[what]);
        }
    }

    private static void feedSome(FountainDesk desk, int bytes) {
        for (int n = 0; n < bytes; n += 20) {
            desk.feed(0x12345678 * (n + 1), 0x9ABCDEF0 + n, n, ~n, 0x0F1E2D3C);
        }
        desk.end(bytes);
    }

    /** A block of the symbols abc, def, ghi, jkl. */
    private static FountainDesk abcBlock() {
        FountainDesk desk = new FountainDesk();
        desk.feed(0x61626364, 0x65666768, 0x696A6B6C, 0, 0);
        desk.end(12);
        desk.block(4, 3);
        return desk;
    }

    /** The same, with a catcher for it. */
    private static FountainDesk abcDesk() {
        FountainDesk desk = abcBlock();
        desk.open(4, 3);
        return desk;
    }

    /** The block becomes one of the bytes 201 .. 212. */
    private static void otherBlock(FountainDesk desk) {
        desk.feed(0xC9CACBCC, 0xCDCECFD0, 0xD1D2D3D4, 0, 0);
        desk.end(12);
        desk.block(4, 3);
    }
}
