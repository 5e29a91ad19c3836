/** What several tests begin with: desks, tapes, and the numbers outside each range, the nearest ones first. */
final class Desks {
    static final int[] NO_SYMBOLS = {0, 49, -1, Integer.MIN_VALUE, Integer.MAX_VALUE};
    static final int[] NO_BYTES = {0, 17, -1, Integer.MIN_VALUE, Integer.MAX_VALUE};
    static final int[] NO_PACKETS = {-1, 65536, Integer.MIN_VALUE, Integer.MAX_VALUE};

    private Desks() {
    }

    /** A block of the symbols abc, def, ghi, jkl. */
    static FountainDesk abcBlock() {
        FountainDesk desk = new FountainDesk();
        abc(desk);
        return desk;
    }

    /** The same, with a catcher for it. */
    static FountainDesk abcDesk() {
        FountainDesk desk = abcBlock();
        desk.open(4, 3);
        return desk;
    }

    /** The block becomes one of the symbols abc, def, ghi, jkl. */
    static void abc(FountainDesk desk) {
        tape(desk, 'a', 'b', 'c', 'd', 'e', 'f', 'g', 'h', 'i', 'j', 'k', 'l');
        desk.block(4, 3);
    }

    /** The block becomes one of the bytes 201 .. 212. */
    static void otherBlock(FountainDesk desk) {
        tape(desk, 201, 202, 203, 204, 205, 206, 207, 208, 209, 210, 211, 212);
        desk.block(4, 3);
    }

    /** The tape becomes these bytes. */
    static void tape(FountainDesk desk, int... bytes) {
        desk.end(0);
        int[] words = new int[(bytes.length + 19) / 20 * 5];
        for (int i = 0; i < bytes.length; i++) {
            words[i / 4] |= bytes[i] << 24 - i % 4 * 8;
        }
        for (int i = 0; i < words.length; i += 5) {
            desk.feed(words[i], words[i + 1], words[i + 2], words[i + 3], words[i + 4]);
        }
        desk.end(bytes.length);
    }

    /** A new desk with some bytes on its tape. */
    static FountainDesk tapeOf(int length) {
        FountainDesk desk = new FountainDesk();
        tape(desk, someBytes(length));
        return desk;
    }

    /** The bytes of tapeOf(length), and of someBlock(desk, k, t). */
    static int[] someBytes(int length) {
        int[] made = new int[length];
        for (int i = 0; i < length; i++) {
            made[i] = (i * 167 + 13 ^ i >> 3) & 255;
        }
        return made;
    }

    static void someBlock(FountainDesk desk, int k, int t) {
        tape(desk, someBytes(k * t));
        desk.block(k, t);
    }
}
