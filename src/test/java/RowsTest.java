import java.util.TreeSet;

/** Promises 4 (turn), 7 (row) and 15 (product): what is told without a tape. */
public final class RowsTest {
    private static final Check CHECK = new Check();

    public static void main(String[] args) {
        turns();
        rows();
        rowsHaveEverySize();
        everyDrawHasItsSize();
        products();
        CHECK.finish();
    }

    private static void turns() {
        FountainDesk desk = new FountainDesk();
        CHECK.same("turn(1)", desk.turn(1), 0);
        CHECK.same("turn(2)", desk.turn(2), 1);
        CHECK.same("turn(9)", desk.turn(9), 1);
        CHECK.same("turn(48)", desk.turn(48), 0);
        PlainDesk plain = new PlainDesk();
        for (int k = 48; k >= 1; k--) {
            CHECK.same("turn(" + k + ")", desk.turn(k), plain.turn(k));
            CHECK.same("turn(" + k + ") again", desk.turn(k), plain.turn(k));
        }
    }

    private static void rows() {
        FountainDesk desk = new FountainDesk();
        CHECK.same("row(1, 0, false)", desk.row(1, 0, false), 2);
        CHECK.same("row(1, 0, true)", desk.row(1, 0, true), 5);
        CHECK.same("row(48, 65535, false)", desk.row(48, 65535, false), 2);
        CHECK.same("row(20, 7, true)", desk.row(20, 7, true), 5);
        for (int k = 1; k <= 48; k++) {
            rowsOf(k);
        }
    }

    private static void rowsOf(int k) {
        FountainDesk desk = new FountainDesk();
        int turn = new PlainDesk().turn(k);
        for (int x = 0; x <= 65535; x += x < 60 ? 1 : 485) {
            TreeSet<Integer> places = PlainDesk.places(k, x, turn);
            CHECK.same("row(" + k + ", " + x + ", false)", desk.row(k, x, false), places.size());
            CHECK.same("row(" + k + ", " + x + ", true)", desk.row(k, x, true), places.last());
        }
    }

    private static void rowsHaveEverySize() {
        CHECK.same("sizes for 48", sizesOf(48).toString(), "[1, 2, 3, 4, 5, 6, 7, 8, 10, 20, 40]");
        CHECK.same("sizes for 3", sizesOf(3).toString(), "[1, 2, 3, 4, 5, 6, 7, 8, 10, 14]");
    }

    private static TreeSet<Integer> sizesOf(int k) {
        TreeSet<Integer> sizes = new TreeSet<>();
        for (int first = 0; first < 5000; first += 500) {
            FountainDesk desk = new FountainDesk();
            for (int x = first; x < first + 500; x++) {
                sizes.add(desk.row(k, x, false));
            }
        }
        return sizes;
    }

    /** One packet for each v of the document, so that every border between two sizes is met. */
    private static void everyDrawHasItsSize() {
        boolean[] met = new boolean[1000];
        int draws = 0;
        FountainDesk desk = new FountainDesk();
        for (int x = 0; x < 65536; x++) {
            int v = PlainDesk.r(x, 0, 1000);
            if (!met[v]) {
                met[v] = true;
                draws++;
                desk = draws % 500 == 0 ? new FountainDesk() : desk;
                CHECK.same("v " + v + ": row(48, " + x + ", false)", desk.row(48, x, false), sizeFor(v));
            }
        }
        CHECK.same("draws that were met", draws, 1000);
    }

    private static int sizeFor(int v) {
        int[][] sizes = {{960, 40}, {900, 20}, {879, 10}, {861, 8}, {837, 7}, {804, 6}, {754, 5}, {671, 4},
            {505, 3}, {5, 2}, {0, 1}};
        int i = 0;
        while (v < sizes[i][0]) {
            i++;
        }
        return sizes[i][1];
    }

    private static void products() {
        FountainDesk desk = new FountainDesk();
        CHECK.same("product(2, 128)", desk.product(2, 128), 29);
        CHECK.same("product(255, 255)", desk.product(255, 255), 226);
        for (int a = 0; a < 256; a++) {
            desk = new FountainDesk();
            for (int b = 0; b < 256; b++) {
                CHECK.same("product(" + a + ", " + b + ")", desk.product(a, b), PlainDesk.times(a, b));
            }
        }
    }
}
