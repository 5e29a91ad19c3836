/**
 * Promises 8 (open), 12 (rank), 13 (follows), 14 (known) and 16 (count) at their borders: a test for each
 * sentence, which stands above it.
 */
public final class CatcherEdgesTest {
    private static final Edges EDGES = new Edges();
    /** Of K = 1 this packet's row is a sum of multiples of the eleven rows: it follows when nothing is caught. */
    private static final int FOLLOWS_FROM_NOTHING = 16;

    public static void main(String[] args) {
        openOfTheLeastAndTheGreatest();
        openIsANewCatcher();
        openLeavesTapeAndBlock();
        openRefusesNoSuchK();
        openRefusesNoSuchT();
        rankIsFromElevenOn();
        rankEndsAtL();
        rankRefusesWithoutACatcher();
        followsOfTheFirstAndTheLast();
        followsFromTheElevenRows();
        allFollowWhenTheRankIsL();
        followsRefusesWithoutACatcher();
        followsRefusesNoSuchPacket();
        knownOfTheFirstAndTheLast();
        knownFromTheElevenRows();
        knownRefusesWithoutACatcher();
        knownRefusesWhatDoesNotFollow();
        knownRefusesNoSuchPacket();
        knownRefusesNoSuchByte();
        knownAsksInOrder();
        countOfTheTape();
        countOfTheBlock();
        countOfTheCatcher();
        countOfWhatWasCaught();
        countOfSymbolsThatFollow();
        countRefusesWhatIsNoneOfThese();
        EDGES.finish();
    }

    /** "K SYMBOLS (1 .. 48) of T bytes each (1 .. 16)": there is a catcher at all four corners. */
    private static void openOfTheLeastAndTheGreatest() {
        for (int k : new int[] {1, 48}) {
            for (int t : new int[] {1, 16}) {
                FountainDesk desk = new FountainDesk();
                EDGES.gets(desk, Edges.DONE, "open", k, t);
                EDGES.gets(desk, k, "count", 3);
                EDGES.gets(desk, t, "count", 4);
                EDGES.gets(desk, 11, "rank");
            }
        }
    }

    /** "A new catcher": of the one before nothing is left, be it greater, less, or the same. */
    private static void openIsANewCatcher() {
        for (int k : new int[] {1, 3, 4, 5, 48}) {
            for (int t : new int[] {1, 3, 16}) {
                FountainDesk desk = allCaught();
                desk.open(k, t);
                FountainDesk fresh = Desks.abcBlock();
                fresh.open(k, t);
                EDGES.gets(desk, 0, "count", 5);
                EDGES.gets(desk, 0, "count", 6);
                EDGES.alike("K " + k + ", T " + t + " like a first catcher", desk, fresh);
            }
        }
    }

    /** "A new catcher": and nothing else. */
    private static void openLeavesTapeAndBlock() {
        FountainDesk desk = allCaught();
        Desks.tape(desk, 1, 2);
        desk.open(7, 5);
        EDGES.gets(desk, 2, "count", 0);
        EDGES.gets(desk, 4, "count", 1);
        EDGES.gets(desk, 3, "count", 2);
        EDGES.gets(desk, (int) 'l', "byteAt", 3, 2);
        desk.block(1, 2);
        EDGES.gets(desk, 2, "byteAt", 0, 1);
    }

    /** "IllegalArgumentException: there is no such K". */
    private static void openRefusesNoSuchK() {
        for (int k : Desks.NO_SYMBOLS) {
            EDGES.refuses(FountainDesk::new, Edges.ARGUMENT, "open", k, 1);
            EDGES.refuses(CatcherEdgesTest::someCaught, Edges.ARGUMENT, "open", k, 16);
        }
    }

    /** "or T". */
    private static void openRefusesNoSuchT() {
        for (int t : Desks.NO_BYTES) {
            EDGES.refuses(FountainDesk::new, Edges.ARGUMENT, "open", 1, t);
            EDGES.refuses(CatcherEdgesTest::someCaught, Edges.ARGUMENT, "open", 48, t);
        }
        EDGES.refuses(CatcherEdgesTest::someCaught, Edges.ARGUMENT, "open", 0, 0);
        EDGES.refuses(CatcherEdgesTest::someCaught, Edges.ARGUMENT, "open", 49, 17);
    }

    /** "The catcher's rank, from 11 on." */
    private static void rankIsFromElevenOn() {
        FountainDesk desk = new FountainDesk();
        for (int k = 1; k <= 48; k++) {
            desk.open(k, 16);
            EDGES.gets(desk, 11, "rank");
        }
        EDGES.leaves(CatcherEdgesTest::someCaught, "rank");
    }

    /** "All follow when the rank is L": so it does not grow farther. */
    private static void rankEndsAtL() {
        for (int k : new int[] {1, 2, 26, 47, 48}) {
            FountainDesk desk = new FountainDesk();
            Desks.someBlock(desk, k, 2);
            desk.open(k, 2);
            EDGES.gets(desk, k, "takeAll", 0, 1, k);
            EDGES.gets(desk, k + 11, "rank");
            EDGES.gets(desk, 0, "takeAll", 1, 6553, 100);
            EDGES.gets(desk, k + 11, "rank");
        }
    }

    /** "IllegalStateException: there is none." */
    private static void rankRefusesWithoutACatcher() {
        EDGES.refuses(FountainDesk::new, Edges.STATE, "rank");
        EDGES.refuses(Desks::abcBlock, Edges.STATE, "rank");
        EDGES.refuses(() -> Desks.tapeOf(20), Edges.STATE, "rank");
        FountainDesk desk = new FountainDesk();
        EDGES.gets(desk, Edges.ARGUMENT, "open", 49, 1);
        EDGES.gets(desk, Edges.STATE, "rank");
    }

    /** "Whether packet x follows for the catcher", of packets 0 and 65535. */
    private static void followsOfTheFirstAndTheLast() {
        for (int x : new int[] {0, 65535}) {
            FountainDesk desk = Desks.abcDesk();
            EDGES.gets(desk, false, "follows", x);
            desk.take(x);
            EDGES.gets(desk, true, "follows", x);
            EDGES.gets(desk, false, "follows", 65535 - x);
        }
        EDGES.leaves(CatcherEdgesTest::someCaught, "follows", 0);
        EDGES.leaves(CatcherEdgesTest::someCaught, "follows", 1);
    }

    /** "The catcher has the eleven rows": what is a sum of multiples of them follows when nothing is caught. */
    private static void followsFromTheElevenRows() {
        FountainDesk desk = new FountainDesk();
        desk.open(1, 2);
        EDGES.gets(desk, true, "follows", FOLLOWS_FROM_NOTHING);
        EDGES.gets(desk, false, "follows", 0);
        EDGES.gets(desk, 11, "rank");
        EDGES.gets(desk, 0, "count", 5);
    }

    /** "All follow when the rank is L", and not yet when it is one less. */
    private static void allFollowWhenTheRankIsL() {
        for (int k : new int[] {1, 4, 26, 48}) {
            FountainDesk desk = new FountainDesk();
            Desks.someBlock(desk, k, 1);
            desk.open(k, 1);
            for (int x = 1000; desk.rank() < k + 10; x++) {
                desk.take(x);
            }
            EDGES.same("K " + k + ": not all symbols follow", desk.count(6) < k ? 1 : 0, 1);
            for (int x = 0; desk.rank() < k + 11; x++) {
                desk.take(x);
            }
            EDGES.gets(desk, k, "count", 6);
            for (int x = 0; x < 65536; x += 1285) {
                EDGES.gets(desk, true, "follows", x);
                EDGES.gets(desk, desk.byteAt(x, 0), "known", x, 0);
            }
        }
    }

    /** "IllegalStateException: there is none", which is named before the packet. */
    private static void followsRefusesWithoutACatcher() {
        for (int x : new int[] {-1, 0, 65535, 65536}) {
            EDGES.refuses(FountainDesk::new, Edges.STATE, "follows", x);
            EDGES.refuses(Desks::abcBlock, Edges.STATE, "follows", x);
        }
    }

    /** "IndexOutOfBoundsException: no such packet." */
    private static void followsRefusesNoSuchPacket() {
        for (int x : Desks.NO_PACKETS) {
            EDGES.refuses(CatcherEdgesTest::someCaught, Edges.INDEX, "follows", x);
            EDGES.refuses(CatcherEdgesTest::allCaught, Edges.INDEX, "follows", x);
        }
    }

    /** "Byte i of packet x that follows for the catcher", at 0 and 65535, 0 and T - 1. */
    private static void knownOfTheFirstAndTheLast() {
        FountainDesk desk = allCaught();
        EDGES.gets(desk, (int) 'a', "known", 0, 0);
        EDGES.gets(desk, (int) 'c', "known", 0, 2);
        EDGES.gets(desk, (int) 'l', "known", 3, 2);
        EDGES.gets(desk, 124, "known", 4, 0);
        EDGES.gets(desk, 153, "known", 65535, 2);
        EDGES.leaves(CatcherEdgesTest::someCaught, "known", 0, 0);
        EDGES.leaves(CatcherEdgesTest::allCaught, "known", 65535, 2);
    }

    /** "then its bytes are the same sum": of the eleven rows alone, which give 0. */
    private static void knownFromTheElevenRows() {
        FountainDesk desk = new FountainDesk();
        desk.open(1, 2);
        EDGES.gets(desk, 0, "known", FOLLOWS_FROM_NOTHING, 0);
        EDGES.gets(desk, 0, "known", FOLLOWS_FROM_NOTHING, 1);
        EDGES.gets(desk, Edges.INDEX, "known", FOLLOWS_FROM_NOTHING, 2);
    }

    /** "IllegalStateException: there is none", which is asked before the packet and the byte. */
    private static void knownRefusesWithoutACatcher() {
        for (int x : new int[] {-1, 0, 65535, 65536}) {
            for (int i : new int[] {-1, 0, 15, 16}) {
                EDGES.refuses(FountainDesk::new, Edges.STATE, "known", x, i);
                EDGES.refuses(Desks::abcBlock, Edges.STATE, "known", x, i);
            }
        }
    }

    /** "or the packet does not follow", though the block has it. */
    private static void knownRefusesWhatDoesNotFollow() {
        EDGES.refuses(Desks::abcDesk, Edges.STATE, "known", 0, 0);
        EDGES.refuses(CatcherEdgesTest::someCaught, Edges.STATE, "known", 1, 0);
        EDGES.refuses(CatcherEdgesTest::someCaught, Edges.STATE, "known", 65535, 2);
    }

    /** "IndexOutOfBoundsException: no such packet". */
    private static void knownRefusesNoSuchPacket() {
        for (int x : Desks.NO_PACKETS) {
            EDGES.refuses(CatcherEdgesTest::someCaught, Edges.INDEX, "known", x, 0);
            EDGES.refuses(CatcherEdgesTest::allCaught, Edges.INDEX, "known", x, 0);
        }
    }

    /** "or byte": T is the catcher's, not the block's. */
    private static void knownRefusesNoSuchByte() {
        for (int i : new int[] {-1, 3, 15, 16, Integer.MIN_VALUE, Integer.MAX_VALUE}) {
            EDGES.refuses(CatcherEdgesTest::someCaught, Edges.INDEX, "known", 0, i);
            EDGES.refuses(CatcherEdgesTest::allCaught, Edges.INDEX, "known", 65535, i);
        }
        FountainDesk wide = Desks.abcBlock();
        wide.open(4, 16);
        Desks.tape(wide, Desks.someBytes(16));
        wide.give(2);
        EDGES.gets(wide, Desks.someBytes(16)[15], "known", 2, 15);
        EDGES.gets(wide, Edges.INDEX, "known", 2, 16);
        FountainDesk narrow = Desks.abcBlock();
        narrow.open(4, 1);
        Desks.tape(narrow, 77);
        narrow.give(2);
        EDGES.gets(narrow, 77, "known", 2, 0);
        EDGES.gets(narrow, Edges.INDEX, "known", 2, 1);
    }

    /** "(asked first of the packet, then whether it follows, then of the byte)". */
    private static void knownAsksInOrder() {
        for (int i : new int[] {-1, 0, 3}) {
            EDGES.refuses(Desks::abcDesk, Edges.INDEX, "known", -1, i);
            EDGES.refuses(Desks::abcDesk, Edges.INDEX, "known", 65536, i);
            EDGES.refuses(Desks::abcDesk, Edges.STATE, "known", 0, i);
            EDGES.refuses(CatcherEdgesTest::someCaught, Edges.STATE, "known", 65535, i);
        }
        EDGES.refuses(CatcherEdgesTest::someCaught, Edges.INDEX, "known", 0, -1);
        EDGES.refuses(CatcherEdgesTest::someCaught, Edges.INDEX, "known", 0, 3);
    }

    /** "0 bytes on the tape", empty and full. */
    private static void countOfTheTape() {
        for (int length : new int[] {0, 1, 20, 799, 800}) {
            EDGES.gets(Desks.tapeOf(length), length, "count", 0);
        }
    }

    /** "1 K and 2 T of the block (0 without)": a catcher does not count, nor does a block that was refused. */
    private static void countOfTheBlock() {
        FountainDesk desk = Desks.tapeOf(12);
        desk.open(4, 3);
        EDGES.gets(desk, 0, "count", 1);
        EDGES.gets(desk, 0, "count", 2);
        EDGES.gets(desk, Edges.ARGUMENT, "block", 4, 4);
        EDGES.gets(desk, 0, "count", 1);
        EDGES.gets(desk, 0, "count", 2);
        desk.block(6, 2);
        EDGES.gets(desk, 6, "count", 1);
        EDGES.gets(desk, 2, "count", 2);
    }

    /** "3 K and 4 T of the catcher (0 without)": a block does not count, nor does a catcher that was refused. */
    private static void countOfTheCatcher() {
        FountainDesk desk = Desks.abcBlock();
        EDGES.gets(desk, 0, "count", 3);
        EDGES.gets(desk, 0, "count", 4);
        EDGES.gets(desk, Edges.ARGUMENT, "open", 4, 17);
        EDGES.gets(desk, 0, "count", 3);
        EDGES.gets(desk, 0, "count", 4);
        desk.open(6, 2);
        EDGES.gets(desk, 6, "count", 3);
        EDGES.gets(desk, 2, "count", 4);
    }

    /** "5 packets that were caught (also those by which the rank did not grow)"; not those that were refused. */
    private static void countOfWhatWasCaught() {
        EDGES.gets(Desks.abcBlock(), 0, "count", 5);
        FountainDesk desk = Desks.abcDesk();
        EDGES.gets(desk, 0, "count", 5);
        desk.take(0);
        desk.take(0);
        EDGES.gets(desk, 2, "count", 5);
        desk.takeAll(0, 0, 100);
        EDGES.gets(desk, 102, "count", 5);
        Desks.tape(desk, 'a', 'b', 'c');
        desk.give(0);
        EDGES.gets(desk, 103, "count", 5);
        Desks.tape(desk, 'a', 'b', 'd');
        EDGES.gets(desk, Edges.SUPPORT, "give", 0);
        Desks.otherBlock(desk);
        EDGES.gets(desk, Edges.SUPPORT, "take", 0);
        desk.takeAll(0, 1, 100);
        EDGES.gets(desk, 103, "count", 5);
        EDGES.gets(desk, 12, "rank");
    }

    /** "6 symbols (packets below K) that follow for the catcher (0 without)": caught or not, and no other packets. */
    private static void countOfSymbolsThatFollow() {
        EDGES.gets(Desks.abcBlock(), 0, "count", 6);
        FountainDesk desk = Desks.abcDesk();
        EDGES.gets(desk, 0, "count", 6);
        desk.take(3);
        EDGES.gets(desk, 1, "count", 6);
        desk.take(4);
        EDGES.gets(desk, 1, "count", 6);
        desk.open(4, 3);
        for (int x = 100; desk.rank() < 15; x++) {
            desk.take(x);
        }
        EDGES.gets(desk, 4, "count", 6);
        FountainDesk one = new FountainDesk();
        one.open(1, 1);
        EDGES.gets(one, true, "follows", FOLLOWS_FROM_NOTHING);
        EDGES.gets(one, 0, "count", 6);
    }

    /** "IllegalArgumentException: what is none of these." */
    private static void countRefusesWhatIsNoneOfThese() {
        for (int what : new int[] {-1, 7, Integer.MIN_VALUE, Integer.MAX_VALUE}) {
            EDGES.refuses(FountainDesk::new, Edges.ARGUMENT, "count", what);
            EDGES.refuses(CatcherEdgesTest::someCaught, Edges.ARGUMENT, "count", what);
        }
        for (int what = 0; what <= 6; what++) {
            EDGES.leaves(CatcherEdgesTest::someCaught, "count", what);
        }
    }

    /** Of abc, def, ghi, jkl the first was caught; three bytes stand on the tape. */
    private static FountainDesk someCaught() {
        FountainDesk desk = Desks.abcDesk();
        desk.take(0);
        Desks.tape(desk, 1, 2, 3);
        return desk;
    }

    private static FountainDesk allCaught() {
        FountainDesk desk = Desks.abcDesk();
        desk.takeAll(0, 1, 4);
        return desk;
    }
}
