/** Promises 2 (feed), 3 (end), 5 (block), 6 (byteAt), and 16 (count) of these, as they are used day by day. */
public final class TapeAndBlockTest {
    private static final Check CHECK = new Check();

    public static void main(String[] args) {
        feedCounts();
        feedTakesHighestFirst();
        endKeepsTheFirst();
        blockTakesTheTape();
        blockIsReplaced();
        packetsOfOneBlock();
        symbolsOfEveryBlock();
        CHECK.finish();
    }

    private static void feedCounts() {
        FountainDesk desk = new FountainDesk();
        CHECK.same("feed", desk.feed(1, 2, 3, 4, 5), 20);
        CHECK.same("feed again", desk.feed(1, 2, 3, 4, 5), 40);
        CHECK.same("count(0)", desk.count(0), 40);
    }

    private static void feedTakesHighestFirst() {
        FountainDesk desk = new FountainDesk();
        desk.feed(0x00010203, 0x04050607, 0xFFFEFDFC, 0x80000000, 0x0000007F);
        desk.block(2, 10);
        int[] due = {0, 1, 2, 3, 4, 5, 6, 7, 255, 254, 253, 252, 128, 0, 0, 0, 0, 0, 0, 127};
        for (int i = 0; i < 20; i++) {
            CHECK.same("fed byte " + i, desk.byteAt(i / 10, i % 10), due[i]);
        }
    }

    private static void endKeepsTheFirst() {
        FountainDesk desk = new FountainDesk();
        desk.feed(0x01020304, 0x05060708, 0, 0, 0);
        desk.end(20);
        CHECK.same("end(20) keeps all", desk.count(0), 20);
        desk.end(5);
        CHECK.same("end(5)", desk.count(0), 5);
        CHECK.same("feed behind the end", desk.feed(0x0A0B0C0D, 0, 0, 0, 0), 25);
        desk.end(6);
        desk.block(6, 1);
        int[] due = {1, 2, 3, 4, 5, 10};
        for (int x = 0; x < due.length; x++) {
            CHECK.same("byte " + x, desk.byteAt(x, 0), due[x]);
        }
    }

    private static void blockTakesTheTape() {
        FountainDesk desk = Desks.abcBlock();
        CHECK.same("count(0)", desk.count(0), 0);
        CHECK.same("count(1)", desk.count(1), 4);
        CHECK.same("count(2)", desk.count(2), 3);
        CHECK.same("count(3)", desk.count(3), 0);
        CHECK.same("count(4)", desk.count(4), 0);
        desk.feed(0, 0, 0, 0, 0);
        CHECK.same("byteAt does not look at the tape", desk.byteAt(0, 0), 97);
    }

    private static void blockIsReplaced() {
        FountainDesk desk = Desks.abcBlock();
        desk.feed(0x0A0B0C0D, 0x0E0F1011, 0, 0, 0);
        desk.end(8);
        desk.block(8, 1);
        CHECK.same("K of the new one", desk.count(1), 8);
        CHECK.same("T of the new one", desk.count(2), 1);
        for (int x = 0; x < 8; x++) {
            CHECK.same("symbol " + x, desk.byteAt(x, 0), 10 + x);
        }
        CHECK.refuses("a byte of the old one", IndexOutOfBoundsException.class, () -> desk.byteAt(0, 1));
    }

    private static void packetsOfOneBlock() {
        FountainDesk desk = Desks.abcBlock();
        for (int i = 0; i < 12; i++) {
            CHECK.same("symbol byte " + i, desk.byteAt(i / 3, i % 3), 97 + i);
        }
        CHECK.same("byteAt(4, 0)", desk.byteAt(4, 0), 124);
        CHECK.same("byteAt(65535, 2)", desk.byteAt(65535, 2), 153);
        PlainDesk plain = new PlainDesk();
        plain.feed(0x61626364, 0x65666768, 0x696A6B6C, 0, 0);
        plain.end(12);
        plain.block(4, 3);
        for (int x = 0; x <= 65535; x += 149) {
            CHECK.same("byteAt(" + x + ", 1)", desk.byteAt(x, 1), plain.byteAt(x, 1));
        }
    }

    private static void symbolsOfEveryBlock() {
        for (int k = 1; k <= 48; k++) {
            int t = 1 + k % 16;
            FountainDesk desk = new FountainDesk();
            PlainDesk plain = new PlainDesk();
            for (int n = 0; n < k * t; n += 20) {
                desk.feed(n * 7919, ~n, n << 20, n * n, k);
                plain.feed(n * 7919, ~n, n << 20, n * n, k);
            }
            desk.end(k * t);
            plain.end(k * t);
            desk.block(k, t);
            plain.block(k, t);
            for (int x = 0; x < k + 20; x++) {
                int i = x % t;
                CHECK.same("K " + k + ": byteAt(" + x + ", " + i + ")", desk.byteAt(x, i), plain.byteAt(x, i));
            }
        }
    }
}
