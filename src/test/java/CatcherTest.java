/**
 * Promises 8 (open), 9 (take), 10 (takeAll), 11 (give), 12 (rank), 13 (follows), 14 (known), and 16
 * (count) of a catcher.
 */
public final class CatcherTest {
    private static final Check CHECK = new Check();

    public static void main(String[] args) {
        openStartsAnew();
        takeUntilAllFollow();
        takeAllGrows();
        takeAllGoesRound();
        giveCatchesTheTape();
        giveNeedsNoBlock();
        ranks();
        followsWithoutBeingCaught();
        knownTellsBytes();
        countsOfTheCatcher();
        CHECK.finish();
    }

    private static void openStartsAnew() {
        FountainDesk desk = Desks.abcDesk();
        CHECK.same("count(3)", desk.count(3), 4);
        CHECK.same("count(4)", desk.count(4), 3);
        desk.takeAll(0, 1, 4);
        desk.open(4, 3);
        CHECK.same("opened again: rank", desk.rank(), 11);
        CHECK.same("opened again: caught", desk.count(5), 0);
        CHECK.same("opened again: follow", desk.count(6), 0);
        CHECK.same("opened again: follows(0)", desk.follows(0), false);
        CHECK.same("opened again: the block stays", desk.byteAt(0, 0), 97);
        desk.open(48, 16);
        CHECK.same("opened wider: count(3)", desk.count(3), 48);
        CHECK.same("opened wider: count(4)", desk.count(4), 16);
        CHECK.same("opened wider: rank", desk.rank(), 11);
    }

    private static void takeUntilAllFollow() {
        FountainDesk desk = Desks.abcDesk();
        CHECK.same("take(0)", desk.take(0), true);
        CHECK.same("take(0) again", desk.take(0), false);
        CHECK.same("caught twice", desk.count(5), 2);
        CHECK.same("take(1)", desk.take(1), true);
        CHECK.same("take(2)", desk.take(2), true);
        CHECK.same("take(3)", desk.take(3), true);
        CHECK.same("take(65535)", desk.take(65535), false);
        CHECK.same("caught", desk.count(5), 6);
        CHECK.same("rank", desk.rank(), 15);
    }

    private static void takeAllGrows() {
        FountainDesk desk = Desks.abcDesk();
        CHECK.same("takeAll(0, 1, 0)", desk.takeAll(0, 1, 0), 0);
        CHECK.same("none caught", desk.count(5), 0);
        desk.take(0);
        CHECK.same("takeAll(100, 1, 3)", desk.takeAll(100, 1, 3), 2);
        CHECK.same("rank", desk.rank(), 14);
        CHECK.same("takeAll(200, 7, 4)", desk.takeAll(200, 7, 4), 1);
        CHECK.same("rank", desk.rank(), 15);
        CHECK.same("caught", desk.count(5), 8);
        CHECK.same("takeAll(60000, 997, 100)", desk.takeAll(60000, 997, 100), 0);
        CHECK.same("caught", desk.count(5), 108);
        for (int i = 0; i < 12; i++) {
            CHECK.same("all came through: " + i, desk.known(i / 3, i % 3), 97 + i);
        }
    }

    private static void takeAllGoesRound() {
        int[][] rounds = {{65534, 1}, {3, -1}, {0, 65537}, {2, -65537}, {0, Integer.MAX_VALUE},
            {5, Integer.MIN_VALUE}, {65535, Integer.MAX_VALUE}, {65535, 65535}, {0, 0}};
        for (int[] round : rounds) {
            FountainDesk desk = Desks.abcDesk();
            FountainDesk oneByOne = Desks.abcDesk();
            int grown = 0;
            for (long i = 0; i < 5; i++) {
                grown += oneByOne.take((int) Math.floorMod(round[0] + i * round[1], 65536L)) ? 1 : 0;
            }
            String what = "takeAll(" + round[0] + ", " + round[1] + ", 5)";
            CHECK.same(what, desk.takeAll(round[0], round[1], 5), grown);
            for (int x = 0; x < 200; x++) {
                CHECK.same(what + ", follows(" + x + ")", desk.follows(x), oneByOne.follows(x));
            }
        }
        FountainDesk desk = Desks.abcDesk();
        CHECK.same("the same one over and over", desk.takeAll(2, 65536, 100), 1);
        CHECK.same("caught each time", desk.count(5), 100);
    }

    private static void giveCatchesTheTape() {
        FountainDesk desk = Desks.abcDesk();
        desk.take(0);
        desk.feed('d' << 24 | 'e' << 16 | 'f' << 8, 0, 0, 0, 0);
        desk.end(3);
        CHECK.same("give(1)", desk.give(1), true);
        CHECK.same("the tape is empty", desk.count(0), 0);
        CHECK.same("caught", desk.count(5), 2);
        desk.feed('d' << 24 | 'e' << 16 | 'f' << 8, 0, 0, 0, 0);
        desk.end(3);
        CHECK.same("give(1) again", desk.give(1), false);
        CHECK.same("the tape is empty again", desk.count(0), 0);
        CHECK.same("caught again", desk.count(5), 3);
        CHECK.same("takeAll(2, 1, 2)", desk.takeAll(2, 1, 2), 2);
        CHECK.same("all goes with the block", desk.known(777, 2), desk.byteAt(777, 2));
    }

    private static void giveNeedsNoBlock() {
        FountainDesk desk = new FountainDesk();
        desk.open(1, 16);
        desk.feed(0x01020304, 0x05060708, 0x090A0B0C, 0x0D0E0F10, 0);
        desk.end(16);
        CHECK.same("give(0)", desk.give(0), true);
        for (int i = 0; i < 16; i++) {
            CHECK.same("known(0, " + i + ")", desk.known(0, i), i + 1);
        }
        CHECK.same("one symbol is all", desk.rank(), 12);
        CHECK.same("so all follow", desk.follows(65535), true);
    }

    private static void ranks() {
        FountainDesk desk = new FountainDesk();
        CHECK.refuses("rank without a catcher", IllegalStateException.class, desk::rank);
        for (int k = 1; k <= 48; k++) {
            desk.open(k, 1);
            CHECK.same("rank from the start, K " + k, desk.rank(), 11);
            feedSome(desk, k);
            desk.block(k, 1);
            for (int x = 0; x < k; x++) {
                desk.take(x);
            }
            CHECK.same("rank in the end, K " + k, desk.rank(), k + 11);
            if (k % 6 == 0) {
                desk = new FountainDesk();
            }
        }
    }

    private static void followsWithoutBeingCaught() {
        for (int k : new int[] {1, 2, 5, 7, 20, 48}) {
            FountainDesk desk = new FountainDesk();
            PlainDesk plain = new PlainDesk();
            desk.open(k, 1);
            plain.open(k, 1);
            feedSome(desk, k);
            desk.block(k, 1);
            while (plain.rank() < k + 11) {
                int x = 1000 + 31 * plain.rank() + plain.count(5);
                plain.feed(desk.byteAt(x, 0) << 24, 0, 0, 0, 0);
                plain.end(1);
                String what = "K " + k + ", take(" + x + ")";
                CHECK.same(what, desk.take(x), plain.give(x));
                CHECK.same(what + ", count(6)", desk.count(6), plain.count(6));
                for (int y = x % 50; y < x % 50 + 4; y++) {
                    CHECK.same(what + ", follows(" + y + ")", desk.follows(y), plain.follows(y));
                }
            }
            for (int y = 0; y < 30; y++) {
                CHECK.same("K " + k + ", all follow: known(" + y + ", 0)", desk.known(y, 0), desk.byteAt(y, 0));
            }
        }
    }

    private static void knownTellsBytes() {
        FountainDesk desk = Desks.abcDesk();
        desk.take(3);
        CHECK.same("known(3, 0)", desk.known(3, 0), 'j');
        CHECK.same("known(3, 2)", desk.known(3, 2), 'l');
        desk.takeAll(500, 3, 20);
        for (int x = 0; x <= 65535; x += 997) {
            for (int i = 0; i < 3; i++) {
                CHECK.same("known(" + x + ", " + i + ")", desk.known(x, i), desk.byteAt(x, i));
            }
        }
    }

    private static void countsOfTheCatcher() {
        FountainDesk desk = Desks.abcDesk();
        int[] due = {0, 4, 3, 4, 3, 0, 0};
        for (int what = 0; what <= 6; what++) {
            CHECK.same("opened: count(" + what + ")", desk.count(what), due[what]);
        }
        desk.take(0);
        desk.take(2);
        desk.take(2);
        CHECK.same("caught", desk.count(5), 3);
        CHECK.same("symbols that follow", desk.count(6), 2);
        Desks.otherBlock(desk);
        desk.feed(1, 2, 3, 4, 5);
        CHECK.same("the catcher outlives the block: caught", desk.count(5), 3);
        CHECK.same("the catcher outlives the block: follow", desk.count(6), 2);
        desk.block(10, 2);
        int[] later = {0, 10, 2, 4, 3, 3, 2};
        for (int what = 0; what <= 6; what++) {
            CHECK.same("another block: count(" + what + ")", desk.count(what), later[what]);
        }
    }

    private static void feedSome(FountainDesk desk, int bytes) {
        for (int n = 0; n < bytes; n += 20) {
            desk.feed(0x12345678 * (n + 1), 0x9ABCDEF0 + n, n, ~n, 0x0F1E2D3C);
        }
        desk.end(bytes);
    }
}
