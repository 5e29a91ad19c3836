import java.util.function.Supplier;

/** Promises 9 (take), 10 (takeAll) and 11 (give) at their borders: a test for each sentence, which stands above it. */
public final class CatchingEdgesTest {
    private static final Edges EDGES = new Edges();
    /** Of K = 1 this packet's row is a sum of multiples of the eleven rows: it follows when nothing is caught. */
    private static final int FOLLOWS_FROM_NOTHING = 16;

    public static void main(String[] args) {
        takeTellsWhetherTheRankGrew();
        takeOfWhatFollowsFromNothing();
        takeOfTheFirstAndTheLast();
        takeRefusesWithoutABlock();
        takeRefusesWithoutACatcher();
        takeRefusesAnotherK();
        takeRefusesAnotherT();
        takeRefusesNoSuchPacket();
        takeRefusesWhatDoesNotGo();
        takeGoesWithTheSameBytes();
        takeGoesOnAfterARefusal();
        takeAllGoesRound();
        takeAllOfOneOverAndOver();
        takeAllOfNoneAndOfAHundred();
        takeAllStopsAtTheFirst();
        takeAllStopsInTheMiddle();
        takeAllStopsAtTheLast();
        takeAllRefusesAsTakeDoes();
        takeAllRefusesNoSuchPacket();
        takeAllRefusesNoSuchNumber();
        takeAllAsksInOrder();
        giveEmptiesTheTape();
        giveOfTheShortestAndTheLongest();
        giveOfTheFirstAndTheLast();
        giveOfWhatFollowsFromNothing();
        giveNeedsNoBlock();
        giveRefusesWithoutACatcher();
        giveRefusesNoSuchPacket();
        giveRefusesATapeOfAnotherLength();
        giveRefusesWhatDoesNotGo();
        giveAsksInOrder();
        EDGES.finish();
    }

    /** "Packet x of the block is caught: whether the rank grew." */
    private static void takeTellsWhetherTheRankGrew() {
        FountainDesk desk = Desks.abcDesk();
        for (int x = 0; x < 4; x++) {
            EDGES.gets(desk, true, "take", x);
            EDGES.gets(desk, false, "take", x);
            EDGES.gets(desk, 12 + x, "rank");
            EDGES.gets(desk, 2 * x + 2, "count", 5);
        }
        for (int x = 4; x < 20; x++) {
            EDGES.gets(desk, false, "take", x);
        }
        EDGES.gets(desk, 15, "rank");
        EDGES.gets(desk, 24, "count", 5);
    }

    /** "A packet FOLLOWS if its row is a sum of multiples of these": of the eleven rows alone, which give 0. */
    private static void takeOfWhatFollowsFromNothing() {
        FountainDesk desk = oneSymbol();
        EDGES.gets(desk, 0, "byteAt", FOLLOWS_FROM_NOTHING, 1);
        EDGES.gets(desk, false, "take", FOLLOWS_FROM_NOTHING);
        EDGES.gets(desk, 11, "rank");
        EDGES.gets(desk, 1, "count", 5);
        EDGES.gets(desk, 0, "count", 6);
        EDGES.gets(desk, true, "take", 0);
    }

    /** "PACKET X (0 .. 65535)". */
    private static void takeOfTheFirstAndTheLast() {
        for (int x : new int[] {0, 65535}) {
            FountainDesk desk = Desks.abcDesk();
            EDGES.gets(desk, true, "take", x);
            EDGES.gets(desk, desk.byteAt(x, 2), "known", x, 2);
        }
    }

    /** "IllegalStateException: there is no block". */
    private static void takeRefusesWithoutABlock() {
        refusesEveryPacket(FountainDesk::new, "take");
        refusesEveryPacket(CatchingEdgesTest::catcherAndTape, "take");
    }

    /** "or no catcher". */
    private static void takeRefusesWithoutACatcher() {
        refusesEveryPacket(Desks::abcBlock, "take");
    }

    /** "or they have not the same K". */
    private static void takeRefusesAnotherK() {
        refusesEveryPacket(() -> abcAndCatcher(3, 3), "take");
        refusesEveryPacket(() -> abcAndCatcher(5, 3), "take");
        refusesEveryPacket(() -> abcAndCatcher(3, 4), "take");
    }

    /** "and T". */
    private static void takeRefusesAnotherT() {
        refusesEveryPacket(() -> abcAndCatcher(4, 2), "take");
        refusesEveryPacket(() -> abcAndCatcher(4, 4), "take");
    }

    /** "IndexOutOfBoundsException: no such packet". */
    private static void takeRefusesNoSuchPacket() {
        for (int x : Desks.NO_PACKETS) {
            EDGES.refuses(Desks::abcDesk, Edges.INDEX, "take", x);
            EDGES.refuses(CatchingEdgesTest::allCaughtOfAnotherBlock, Edges.INDEX, "take", x);
        }
    }

    /** "UnsupportedOperationException: what it is does not go with what follows already", caught itself or not. */
    private static void takeRefusesWhatDoesNotGo() {
        EDGES.refuses(CatchingEdgesTest::oneCaughtOfAnotherBlock, Edges.SUPPORT, "take", 1);
        for (int x : new int[] {0, 3, 4, 777, 65535}) {
            EDGES.refuses(CatchingEdgesTest::allCaughtOfAnotherBlock, Edges.SUPPORT, "take", x);
        }
        for (int i = 0; i < 3; i++) {
            int changed = 9 + i;
            EDGES.refuses(() -> allCaughtButOneBit(changed), Edges.SUPPORT, "take", 3);
        }
    }

    /** "what it is does not go": another block's packet goes if it has the same bytes. */
    private static void takeGoesWithTheSameBytes() {
        FountainDesk desk = allCaughtButOneBit(11);
        for (int x = 0; x < 3; x++) {
            EDGES.gets(desk, false, "take", x);
        }
        EDGES.gets(desk, 7, "count", 5);
        FountainDesk one = oneSymbol();
        one.take(0);
        Desks.tape(one, 9, 9);
        one.block(1, 2);
        EDGES.gets(one, Edges.SUPPORT, "take", 0);
        EDGES.gets(one, false, "take", FOLLOWS_FROM_NOTHING);
    }

    /** "A call that throws changes nothing": the refused packet is not caught, and others can be. */
    private static void takeGoesOnAfterARefusal() {
        FountainDesk desk = oneCaughtOfAnotherBlock();
        EDGES.gets(desk, Edges.SUPPORT, "take", 1);
        EDGES.gets(desk, 1, "count", 5);
        EDGES.gets(desk, true, "take", 0);
        EDGES.gets(desk, 201, "known", 0, 0);
        EDGES.gets(desk, (int) 'd', "known", 1, 0);
        EDGES.gets(desk, Edges.SUPPORT, "take", 1);
        EDGES.gets(desk, 2, "count", 5);
    }

    /** "Packets x, x + step, .. (modulo 65536) of the block are caught, n of them". */
    private static void takeAllGoesRound() {
        catchesJust(65534, 1, 65534, 65535, 0, 1);
        catchesJust(65535, 1, 65535, 0, 1);
        catchesJust(1, -1, 1, 0, 65535, 65534);
        catchesJust(0, -1, 0, 65535, 65534);
        catchesJust(3, 65535, 3, 2, 1, 0, 65535);
        catchesJust(7, 65537, 7, 8, 9);
        catchesJust(7, -65537, 7, 6, 5);
        catchesJust(40000, 40000, 40000, 14464, 54464, 28928);
        catchesJust(20000, -40000, 20000, 45536, 5536, 31072);
        catchesJust(65535, Integer.MAX_VALUE, 65535, 65534, 65533);
        catchesJust(0, Integer.MAX_VALUE, 0, 65535, 65534);
        catchesJust(0, Integer.MIN_VALUE + 1, 0, 1, 2, 3);
        catchesJust(65535, Integer.MIN_VALUE + 1, 65535, 0, 1);
    }

    /** "(modulo 65536)": a step of a whole round or of none comes back to the same packet, each time caught. */
    private static void takeAllOfOneOverAndOver() {
        for (int step : new int[] {0, 65536, -65536, Integer.MIN_VALUE}) {
            FountainDesk desk = wideDesk();
            EDGES.gets(desk, 1, "takeAll", 65535, step, 100);
            EDGES.gets(desk, 100, "count", 5);
            EDGES.gets(desk, 12, "rank");
            EDGES.gets(desk, true, "follows", 65535);
        }
        FountainDesk desk = wideDesk();
        EDGES.gets(desk, 2, "takeAll", 5, 32768, 99);
        EDGES.gets(desk, 99, "count", 5);
    }

    /** "n of them", n being 0 .. 100; "by how much the rank grew". */
    private static void takeAllOfNoneAndOfAHundred() {
        EDGES.gets(wideDesk(), 0, "takeAll", 0, 1, 0);
        EDGES.leaves(Desks::abcDesk, "takeAll", 0, 1, 0);
        FountainDesk desk = wideDesk();
        EDGES.gets(desk, 1, "takeAll", 0, 1, 1);
        EDGES.gets(desk, 1, "count", 5);
        EDGES.gets(desk, 47, "takeAll", 0, 1, 100);
        EDGES.gets(desk, 101, "count", 5);
        EDGES.gets(desk, 0, "takeAll", 0, 1, 100);
        EDGES.gets(desk, 59, "rank");
        EDGES.gets(desk, 201, "count", 5);
    }

    /** "until one is refused", the first one: then none is caught, and nothing is thrown. */
    private static void takeAllStopsAtTheFirst() {
        EDGES.gets(oneCaughtOfAnotherBlock(), 0, "takeAll", 1, 1, 3);
        EDGES.leaves(CatchingEdgesTest::oneCaughtOfAnotherBlock, "takeAll", 1, 1, 3);
        EDGES.gets(allCaughtOfAnotherBlock(), 0, "takeAll", 0, 1, 100);
        EDGES.leaves(CatchingEdgesTest::allCaughtOfAnotherBlock, "takeAll", 0, 1, 100);
    }

    /** "until one is refused: by how much the rank grew": those before it stay caught, those behind it are not. */
    private static void takeAllStopsInTheMiddle() {
        FountainDesk desk = oneCaughtOfAnotherBlock();
        EDGES.gets(desk, 1, "takeAll", 0, 1, 4);
        EDGES.gets(desk, 13, "rank");
        EDGES.gets(desk, 2, "count", 5);
        EDGES.gets(desk, 2, "count", 6);
        EDGES.gets(desk, 201, "known", 0, 0);
        EDGES.gets(desk, (int) 'd', "known", 1, 0);
        EDGES.gets(desk, false, "follows", 2);
        FountainDesk down = oneCaughtOfAnotherBlock();
        EDGES.gets(down, 2, "takeAll", 3, -1, 100);
        EDGES.gets(down, 3, "count", 5);
        EDGES.gets(down, false, "follows", 0);
    }

    /** "n of them, until one is refused": a refused one behind the n is not met, one as the last of them is. */
    private static void takeAllStopsAtTheLast() {
        FountainDesk desk = oneCaughtOfAnotherBlock();
        EDGES.gets(desk, 2, "takeAll", 3, -1, 3);
        EDGES.gets(desk, 3, "count", 5);
        EDGES.gets(desk, 14, "rank");
        FountainDesk before = oneCaughtOfAnotherBlock();
        EDGES.gets(before, 2, "takeAll", 3, -1, 2);
        EDGES.gets(before, 3, "count", 5);
        EDGES.gets(before, 14, "rank");
    }

    /** "IllegalStateException: as for take()", also of no packets. */
    private static void takeAllRefusesAsTakeDoes() {
        for (int n : new int[] {0, 1, 100}) {
            EDGES.refuses(FountainDesk::new, Edges.STATE, "takeAll", 0, 1, n);
            EDGES.refuses(CatchingEdgesTest::catcherAndTape, Edges.STATE, "takeAll", 0, 1, n);
            EDGES.refuses(Desks::abcBlock, Edges.STATE, "takeAll", 0, 1, n);
            EDGES.refuses(() -> abcAndCatcher(3, 3), Edges.STATE, "takeAll", 0, 1, n);
            EDGES.refuses(() -> abcAndCatcher(5, 3), Edges.STATE, "takeAll", 0, 1, n);
            EDGES.refuses(() -> abcAndCatcher(4, 2), Edges.STATE, "takeAll", 0, 1, n);
            EDGES.refuses(() -> abcAndCatcher(4, 4), Edges.STATE, "takeAll", 0, 1, n);
            EDGES.refuses(() -> abcAndCatcher(3, 4), Edges.STATE, "takeAll", 0, 1, n);
        }
    }

    /** "IndexOutOfBoundsException: no such packet x", also if none is to be caught; x is not taken modulo 65536. */
    private static void takeAllRefusesNoSuchPacket() {
        for (int x : Desks.NO_PACKETS) {
            for (int n : new int[] {0, 1, 100}) {
                EDGES.refuses(Desks::abcDesk, Edges.INDEX, "takeAll", x, 1, n);
            }
        }
    }

    /** "IllegalArgumentException: n is not 0 .. 100." */
    private static void takeAllRefusesNoSuchNumber() {
        for (int n : new int[] {-1, 101, Integer.MIN_VALUE, Integer.MAX_VALUE}) {
            EDGES.refuses(Desks::abcDesk, Edges.ARGUMENT, "takeAll", 0, 1, n);
            EDGES.refuses(Desks::abcDesk, Edges.ARGUMENT, "takeAll", 65535, 0, n);
            EDGES.refuses(CatchingEdgesTest::allCaughtOfAnotherBlock, Edges.ARGUMENT, "takeAll", 0, 1, n);
        }
    }

    /** "the one named first when several would do": state, then packet, then number. */
    private static void takeAllAsksInOrder() {
        for (int n : new int[] {-1, 101}) {
            EDGES.refuses(FountainDesk::new, Edges.STATE, "takeAll", 0, 1, n);
            EDGES.refuses(Desks::abcBlock, Edges.STATE, "takeAll", -1, 1, n);
            EDGES.refuses(() -> abcAndCatcher(4, 2), Edges.STATE, "takeAll", 65536, 1, n);
            EDGES.refuses(Desks::abcDesk, Edges.INDEX, "takeAll", -1, 1, n);
            EDGES.refuses(Desks::abcDesk, Edges.INDEX, "takeAll", 65536, 1, n);
        }
    }

    /** "The tape (which is empty then) is packet x, and is caught: whether the rank grew." */
    private static void giveEmptiesTheTape() {
        FountainDesk desk = new FountainDesk();
        desk.open(4, 3);
        Desks.tape(desk, 1, 2, 3);
        EDGES.gets(desk, true, "give", 2);
        EDGES.gets(desk, 0, "count", 0);
        EDGES.gets(desk, 1, "count", 5);
        Desks.tape(desk, 1, 2, 3);
        EDGES.gets(desk, false, "give", 2);
        EDGES.gets(desk, 0, "count", 0);
        EDGES.gets(desk, 2, "count", 5);
        EDGES.gets(desk, Edges.ARGUMENT, "give", 2);
        EDGES.gets(desk, 12, "rank");
        EDGES.gets(desk, 3, "known", 2, 2);
    }

    /** "T bytes each (1 .. 16)". */
    private static void giveOfTheShortestAndTheLongest() {
        for (int t : new int[] {1, 16}) {
            FountainDesk desk = Desks.tapeOf(t);
            desk.open(48, t);
            EDGES.gets(desk, true, "give", 47);
            for (int i = 0; i < t; i++) {
                EDGES.gets(desk, Desks.someBytes(t)[i], "known", 47, i);
            }
        }
    }

    /** "PACKET X (0 .. 65535)". */
    private static void giveOfTheFirstAndTheLast() {
        for (int x : new int[] {0, 65535}) {
            FountainDesk desk = catcherAndTape();
            EDGES.gets(desk, true, "give", x);
            EDGES.gets(desk, Desks.someBytes(3)[1], "known", x, 1);
        }
    }

    /** "What these eleven rows give is 0": a packet that follows from them alone goes with no other bytes. */
    private static void giveOfWhatFollowsFromNothing() {
        EDGES.refuses(() -> oneSymbolCatcher(0, 1), Edges.SUPPORT, "give", FOLLOWS_FROM_NOTHING);
        EDGES.refuses(() -> oneSymbolCatcher(128, 0), Edges.SUPPORT, "give", FOLLOWS_FROM_NOTHING);
        FountainDesk desk = oneSymbolCatcher(0, 0);
        EDGES.gets(desk, false, "give", FOLLOWS_FROM_NOTHING);
        EDGES.gets(desk, 0, "count", 0);
        EDGES.gets(desk, 1, "count", 5);
        EDGES.gets(desk, 11, "rank");
    }

    /** Of a block give() says nothing: one of other bytes, or of another K and T, is not looked at. */
    private static void giveNeedsNoBlock() {
        for (int t : new int[] {2, 3, 4}) {
            FountainDesk desk = abcAndCatcher(4, t);
            Desks.tape(desk, Desks.someBytes(t));
            EDGES.gets(desk, true, "give", 0);
            EDGES.gets(desk, Desks.someBytes(t)[t - 1], "known", 0, t - 1);
            EDGES.gets(desk, (int) 'a', "byteAt", 0, 0);
        }
    }

    /** "IllegalStateException: there is no catcher". */
    private static void giveRefusesWithoutACatcher() {
        refusesEveryPacket(() -> Desks.tapeOf(3), "give");
        refusesEveryPacket(FountainDesk::new, "give");
        refusesEveryPacket(Desks::abcBlock, "give");
    }

    /** "IndexOutOfBoundsException: no such packet". */
    private static void giveRefusesNoSuchPacket() {
        for (int x : Desks.NO_PACKETS) {
            EDGES.refuses(CatchingEdgesTest::catcherAndTape, Edges.INDEX, "give", x);
        }
    }

    /** "IllegalArgumentException: the tape has not T bytes": none, one too few, one too many, as many as can be. */
    private static void giveRefusesATapeOfAnotherLength() {
        for (int t : new int[] {1, 3, 16}) {
            for (int length : new int[] {0, t - 1, t + 1, 800}) {
                EDGES.refuses(() -> catcherAndTape(t, length), Edges.ARGUMENT, "give", 0);
            }
        }
        EDGES.refuses(() -> catcherAndTape(3, 12), Edges.ARGUMENT, "give", 65535);
    }

    /** "UnsupportedOperationException: it does not go with what follows already", by any one byte of it. */
    private static void giveRefusesWhatDoesNotGo() {
        for (int i = 0; i < 3; i++) {
            for (int bit : new int[] {1, 128}) {
                int[] bytes = {'j', 'k', 'l'};
                bytes[i] ^= bit;
                EDGES.refuses(() -> allCaughtAndTape(bytes), Edges.SUPPORT, "give", 3);
            }
        }
        EDGES.refuses(() -> allCaughtAndTape('j', 'k', 'l'), Edges.SUPPORT, "give", 0);
        EDGES.refuses(() -> allCaughtAndTape('j', 'k', 'l'), Edges.SUPPORT, "give", 4);
        EDGES.refuses(() -> allCaughtAndTape(0, 0, 0), Edges.SUPPORT, "give", 65535);
        EDGES.gets(allCaughtAndTape('j', 'k', 'l'), false, "give", 3);
    }

    /** "the one named first when several would do": catcher, then packet, then tape, then what follows. */
    private static void giveAsksInOrder() {
        for (int x : new int[] {-1, 65536}) {
            EDGES.refuses(() -> Desks.tapeOf(2), Edges.STATE, "give", x);
            EDGES.refuses(() -> catcherAndTape(3, 2), Edges.INDEX, "give", x);
            EDGES.refuses(() -> catcherAndTape(3, 0), Edges.INDEX, "give", x);
            EDGES.refuses(() -> allCaughtAndTape(0, 0, 0), Edges.INDEX, "give", x);
        }
        EDGES.refuses(() -> allCaughtAndTape(0, 0), Edges.ARGUMENT, "give", 3);
        EDGES.refuses(() -> allCaughtAndTape(0, 0, 0, 0), Edges.ARGUMENT, "give", 3);
    }

    /** IllegalStateException comes before what is wrong with the packet. */
    private static void refusesEveryPacket(Supplier<FountainDesk> made, String method) {
        for (int x : new int[] {-1, 0, 3, 65535, 65536}) {
            EDGES.refuses(made, Edges.STATE, method, x);
        }
    }

    /** From the first of them on by the step, just these are caught: of so few none other near them follows. */
    private static void catchesJust(int x, int step, int... due) {
        FountainDesk desk = wideDesk();
        EDGES.gets(desk, due.length, "takeAll", x, step, due.length);
        EDGES.gets(desk, due.length, "count", 5);
        for (int one : due) {
            EDGES.gets(desk, desk.byteAt(one, 0), "known", one, 0);
            for (int near = one - 3; near <= one + 3; near++) {
                int other = Math.floorMod(near, 65536);
                EDGES.gets(desk, contains(due, other), "follows", other);
            }
        }
    }

    private static boolean contains(int[] all, int one) {
        for (int each : all) {
            if (each == one) {
                return true;
            }
        }
        return false;
    }

    /** A block of 48 symbols of a byte, and a catcher for it. */
    private static FountainDesk wideDesk() {
        FountainDesk desk = new FountainDesk();
        Desks.someBlock(desk, 48, 1);
        desk.open(48, 1);
        return desk;
    }

    private static FountainDesk oneSymbol() {
        FountainDesk desk = new FountainDesk();
        Desks.someBlock(desk, 1, 2);
        desk.open(1, 2);
        return desk;
    }

    private static FountainDesk oneSymbolCatcher(int... tape) {
        FountainDesk desk = new FountainDesk();
        desk.open(1, 2);
        Desks.tape(desk, tape);
        return desk;
    }

    private static FountainDesk abcAndCatcher(int k, int t) {
        FountainDesk desk = Desks.abcBlock();
        desk.open(k, t);
        return desk;
    }

    private static FountainDesk catcherAndTape() {
        return catcherAndTape(3, 3);
    }

    private static FountainDesk catcherAndTape(int t, int length) {
        FountainDesk desk = Desks.tapeOf(length);
        desk.open(4, t);
        return desk;
    }

    private static FountainDesk oneCaughtOfAnotherBlock() {
        FountainDesk desk = Desks.abcDesk();
        desk.take(1);
        Desks.otherBlock(desk);
        return desk;
    }

    private static FountainDesk allCaughtOfAnotherBlock() {
        FountainDesk desk = Desks.abcDesk();
        desk.takeAll(0, 1, 4);
        Desks.otherBlock(desk);
        return desk;
    }

    /** The block was one of 12 bytes; since all were caught, one bit of one byte of it is another. */
    private static FountainDesk allCaughtButOneBit(int changed) {
        FountainDesk desk = Desks.abcDesk();
        desk.takeAll(0, 1, 4);
        int[] bytes = {'a', 'b', 'c', 'd', 'e', 'f', 'g', 'h', 'i', 'j', 'k', 'l'};
        bytes[changed] ^= 1;
        Desks.tape(desk, bytes);
        desk.block(4, 3);
        return desk;
    }

    private static FountainDesk allCaughtAndTape(int... tape) {
        FountainDesk desk = Desks.abcDesk();
        desk.takeAll(0, 1, 4);
        Desks.tape(desk, tape);
        return desk;
    }
}
