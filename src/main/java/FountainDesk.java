import java.util.Arrays;

/** A fountain of packets, by the document's sixteen promises. */
public final class FountainDesk {
    public static final int NONE = -1;

    private static final int MOST_SYMBOLS = 48;
    private static final int MOST_BYTES = 16;
    private static final int SUMS = 7;
    private static final int MORE = 4;
    private static final int ADDED = SUMS + MORE;
    private static final int MOST_INNER = MOST_SYMBOLS + ADDED;
    private static final int PACKETS = 65536;
    private static final int MOST_AT_ONCE = 100;
    private static final int BYTES_A_FEED = 20;

    private final Field field;
    private final Tape tape;
    private final PacketRow packet;
    private final Equations work;
    private final Turns turns;
    private final Block block;
    private final Catcher catcher;

    public FountainDesk() {
        field = new Field();
        tape = new Tape();
        packet = new PacketRow();
        work = new Equations(field);
        turns = new Turns(work, packet);
        block = new Block();
        catcher = new Catcher(field);
    }

    public int feed(int a, int b, int c, int d, int e) throws UnsupportedOperationException {
        if (!tape.hasRoom(BYTES_A_FEED)) {
            throw new UnsupportedOperationException();
        }
        tape.append(a);
        tape.append(b);
        tape.append(c);
        tape.append(d);
        tape.append(e);
        return tape.length;
    }

    public void end(int n) throws IllegalArgumentException {
        if (n < 0 || n > tape.length) {
            throw new IllegalArgumentException();
        }
        tape.length = n;
    }

    public int turn(int k) throws IllegalArgumentException {
        if (!isSymbolCount(k)) {
            throw new IllegalArgumentException();
        }
        return turns.of(k);
    }

    public void block(int k, int t) throws IllegalArgumentException {
        if (!isSymbolCount(k) || !isByteCount(t) || tape.length != k * t) {
            throw new IllegalArgumentException();
        }
        // The turn is asked for first: its search uses the work equations too.
        int turn = turns.of(k);
        solveTape(k, t, turn);
        block.load(work, k, turn);
        tape.length = 0;
    }

    public int byteAt(int x, int i) throws IllegalStateException, IndexOutOfBoundsException {
        if (block.symbols == 0) {
            throw new IllegalStateException();
        }
        if (!isPacket(x) || i < 0 || i >= block.bytes) {
            throw new IndexOutOfBoundsException();
        }
        packet.find(block.symbols, x, block.turn);
        return block.valueOf(packet, i);
    }

    public int row(int k, int x, boolean place) throws IllegalArgumentException, IndexOutOfBoundsException {
        if (!isSymbolCount(k)) {
            throw new IllegalArgumentException();
        }
        if (!isPacket(x)) {
            throw new IndexOutOfBoundsException();
        }
        packet.find(k, x, turns.of(k));
        return place ? packet.greatest() : packet.size;
    }

    public void open(int k, int t) throws IllegalArgumentException {
        if (!isSymbolCount(k) || !isByteCount(t)) {
            throw new IllegalArgumentException();
        }
        catcher.begin(k, t, turns.of(k));
    }

    public boolean take(int x) throws IllegalStateException, IndexOutOfBoundsException, UnsupportedOperationException {
        if (!blockFitsCatcher()) {
            throw new IllegalStateException();
        }
        if (!isPacket(x)) {
            throw new IndexOutOfBoundsException();
        }
        int grown = catchFromBlock(x);
        if (grown == NONE) {
            throw new UnsupportedOperationException();
        }
        return grown == 1;
    }

    public int takeAll(int x, int step, int n)
            throws IllegalStateException, IndexOutOfBoundsException, IllegalArgumentException {
        if (!blockFitsCatcher()) {
            throw new IllegalStateException();
        }
        if (!isPacket(x)) {
            throw new IndexOutOfBoundsException();
        }
        if (n < 0 || n > MOST_AT_ONCE) {
            throw new IllegalArgumentException();
        }
        int grown = 0;
        int at = x;
        for (int i = 0; i < n; i++) {
            int one = catchFromBlock(at);
            if (one == NONE) {
                return grown;
            }
            grown += one;
            at = Math.floorMod(at + step, PACKETS);
        }
        return grown;
    }

    public boolean give(int x) throws IllegalStateException, IndexOutOfBoundsException, IllegalArgumentException,
            UnsupportedOperationException {
        if (catcher.symbols == 0) {
            throw new IllegalStateException();
        }
        if (!isPacket(x)) {
            throw new IndexOutOfBoundsException();
        }
        if (tape.length != catcher.bytes) {
            throw new IllegalArgumentException();
        }
        int grown = catchFromTape(x);
        if (grown == NONE) {
            throw new UnsupportedOperationException();
        }
        tape.length = 0;
        return grown == 1;
    }

    public int rank() throws IllegalStateException {
        if (catcher.symbols == 0) {
            throw new IllegalStateException();
        }
        return catcher.equations.rank;
    }

    public boolean follows(int x) throws IllegalStateException, IndexOutOfBoundsException {
        if (catcher.symbols == 0) {
            throw new IllegalStateException();
        }
        if (!isPacket(x)) {
            throw new IndexOutOfBoundsException();
        }
        return catcherDerives(x);
    }

    public int known(int x, int i) throws IllegalStateException, IndexOutOfBoundsException {
        if (catcher.symbols == 0) {
            throw new IllegalStateException();
        }
        if (!isPacket(x)) {
            throw new IndexOutOfBoundsException();
        }
        if (!catcherDerives(x)) {
            throw new IllegalStateException();
        }
        if (i < 0 || i >= catcher.bytes) {
            throw new IndexOutOfBoundsException();
        }
        return catcher.equations.derivedValue(i);
    }

    public int product(int a, int b) {
        return field.times(a & 255, b & 255);
    }

    public int count(int what) throws IllegalArgumentException {
        switch (what) {
            case 0:
                return tape.length;
            case 1:
                return block.symbols;
            case 2:
                return block.bytes;
            case 3:
                return catcher.symbols;
            case 4:
                return catcher.bytes;
            case 5:
                return catcher.caught;
            case 6:
                return symbolsThatFollow();
            default:
                throw new IllegalArgumentException();
        }
    }

    private static boolean isSymbolCount(int k) {
        return k >= 1 && k <= MOST_SYMBOLS;
    }

    private static boolean isByteCount(int t) {
        return t >= 1 && t <= MOST_BYTES;
    }

    private static boolean isPacket(int x) {
        return x >= 0 && x < PACKETS;
    }

    private boolean blockFitsCatcher() {
        return block.symbols != 0 && block.symbols == catcher.symbols && block.bytes == catcher.bytes;
    }

    private void solveTape(int symbols, int bytes, int turn) {
        work.start(symbols, bytes);
        for (int x = 0; x < symbols; x++) {
            packet.find(symbols, x, turn);
            work.setLine(packet);
            for (int i = 0; i < bytes; i++) {
                work.setValue(i, tape.held[x * bytes + i]);
            }
            work.learn();
        }
    }

    /** By how much the rank grew, or NONE if the packet was refused. */
    private int catchFromBlock(int x) {
        packet.find(catcher.symbols, x, catcher.turn);
        catcher.equations.setLine(packet);
        for (int i = 0; i < catcher.bytes; i++) {
            catcher.equations.setValue(i, block.valueOf(packet, i));
        }
        return catcher.catchLine();
    }

    /** By how much the rank grew, or NONE if the packet was refused. */
    private int catchFromTape(int x) {
        packet.find(catcher.symbols, x, catcher.turn);
        catcher.equations.setLine(packet);
        for (int i = 0; i < catcher.bytes; i++) {
            catcher.equations.setValue(i, tape.held[i]);
        }
        return catcher.catchLine();
    }

    private boolean catcherDerives(int x) {
        packet.find(catcher.symbols, x, catcher.turn);
        return catcher.equations.derive(packet);
    }

    private int symbolsThatFollow() {
        int found = 0;
        for (int x = 0; x < catcher.symbols; x++) {
            if (catcherDerives(x)) {
                found++;
            }
        }
        return found;
    }

    /** The 256 bytes as a field: the powers of 2 are all but 0, so a product adds exponents. */
    private static final class Field {
        private static final int MODULUS = 285;
        private static final int ORDER = 255;

        private final int[] power;
        private final int[] exponent;

        Field() {
            // Twice as long as the powers go round: two exponents are added without a modulo.
            power = new int[2 * ORDER];
            exponent = new int[ORDER + 1];
            int value = 1;
            for (int e = 0; e < ORDER; e++) {
                power[e] = value;
                power[e + ORDER] = value;
                exponent[value] = e;
                value <<= 1;
                if (value > ORDER) {
                    value ^= MODULUS;
                }
            }
        }

        int times(int a, int b) {
            return a == 0 || b == 0 ? 0 : power[exponent[a] + exponent[b]];
        }

        /** The factor that makes 1 of a, which is not 0. */
        int inverse(int a) {
            return power[ORDER - exponent[a]];
        }

        int powerOfTwo(int e) {
            return power[e % ORDER];
        }

        /** Adds factor (not 0) times the first so many elements of one row to those of another. */
        void addTimes(int[] to, int[] from, int factor, int length) {
            int shift = exponent[factor];
            for (int j = 0; j < length; j++) {
                int value = from[j];
                if (value != 0) {
                    to[j] ^= power[shift + exponent[value]];
                }
            }
        }
    }

    /** The bytes that were fed and not yet used. */
    private static final class Tape {
        private static final int ROOM = 800;

        private final int[] held;
        private int length;

        Tape() {
            held = new int[ROOM];
            length = 0;
        }

        boolean hasRoom(int bytes) {
            return length + bytes <= ROOM;
        }

        void append(int word) {
            for (int shift = 24; shift >= 0; shift -= 8) {
                held[length] = (word >>> shift) & 255;
                length++;
            }
        }
    }

    /** The places with 1 in the row of the packet that was looked up last. */
    private static final class PacketRow {
        private static final int DRAWS = 1000;
        private static final int[] BELOW = {5, 505, 671, 754, 804, 837, 861, 879, 900, 960, 1000};
        private static final int[] SIZES = {1, 2, 3, 4, 5, 6, 7, 8, 10, 20, 40};

        private final int[] places;
        private int size;

        PacketRow() {
            places = new int[MOST_INNER];
            size = 0;
        }

        void find(int symbols, int x, int turn) {
            int inner = symbols + ADDED;
            long seed = x + (long) PACKETS * turn;
            int wanted = Math.min(sizeFor(chance(seed, 0, DRAWS)), inner);
            int prime = leastPrimeFrom(inner);
            int at = chance(seed, 2, prime);
            int step = 1 + chance(seed, 1, prime - 1);
            size = 0;
            // A round of a prime's length meets every place once, so it finds all that are wanted.
            for (int i = 0; i < prime && size < wanted; i++) {
                if (at < inner) {
                    places[size] = at;
                    size++;
                }
                at = (at + step) % prime;
            }
        }

        int greatest() {
            int most = NONE;
            for (int i = 0; i < size; i++) {
                most = Math.max(most, places[i]);
            }
            return most;
        }

        private static int sizeFor(int draw) {
            for (int i = 0; i < BELOW.length; i++) {
                if (draw < BELOW[i]) {
                    return SIZES[i];
                }
            }
            return SIZES[SIZES.length - 1];
        }

        /** The document's R. */
        private static int chance(long seed, int number, int modulus) {
            return (int) ((mix(seed, number) >>> 32) % modulus);
        }

        private static long mix(long seed, int number) {
            long z = seed + (number + 1) * 0x9E3779B97F4A7C15L;
            z = (z ^ (z >>> 30)) * 0xBF58476D1CE4E5B9L;
            z = (z ^ (z >>> 27)) * 0x94D049BB133111EBL;
            return z ^ (z >>> 31);
        }

        private static int leastPrimeFrom(int least) {
            int p = least;
            // There is a prime between every number and its double.
            while (p < 2 * least && !isPrime(p)) {
                p++;
            }
            return p;
        }

        private static boolean isPrime(int p) {
            for (int d = 2; d * d <= p; d++) {
                if (p % d == 0) {
                    return false;
                }
            }
            return true;
        }
    }

    /**
     * Rows of places, each with the bytes it gives, kept so that each has 1 at a place of its own (its
     * lead), 0 at the leads of all others, and 0 behind its lead. So a line is reduced by just those rows
     * on whose leads it has something, in any order. The bytes stand in front of the places: all that is
     * not 0 in a row then lies up to its lead.
     */
    private static final class Equations {
        private final Field field;
        private final int[][] rows;
        private final boolean[] leads;
        private final int[] line;
        private int inner;
        private int bytes;
        private int rank;

        Equations(Field field) {
            this.field = field;
            rows = new int[MOST_INNER][MOST_BYTES + MOST_INNER];
            leads = new boolean[MOST_INNER];
            line = new int[MOST_BYTES + MOST_INNER];
            inner = 0;
            bytes = 0;
            rank = 0;
        }

        /** Forgets all but the eleven rows that stand for every block of so many symbols. */
        void start(int symbols, int bytes) {
            inner = symbols + ADDED;
            this.bytes = bytes;
            rank = 0;
            for (int p = 0; p < MOST_INNER; p++) {
                leads[p] = false;
            }
            for (int i = 0; i < SUMS; i++) {
                setSumLine(symbols, i);
                learn();
            }
            for (int i = 0; i < MORE; i++) {
                setPowerLine(symbols, i);
                learn();
            }
        }

        /** The line becomes the packet's row, with bytes 0. */
        void setLine(PacketRow packet) {
            Arrays.fill(line, 0);
            for (int i = 0; i < packet.size; i++) {
                line[bytes + packet.places[i]] = 1;
            }
        }

        void setValue(int i, int value) {
            line[i] = value;
        }

        /** Takes the line in: 1 if the rank grew, 0 if the line followed, NONE if it contradicts. */
        int learn() {
            reduceLine();
            int lead = lineLead();
            if (lead == NONE) {
                return hasValueLeft() ? NONE : 0;
            }
            keepLine(lead);
            return 1;
        }

        /** Whether the packet follows; if so, derivedValue tells its bytes. */
        boolean derive(PacketRow packet) {
            setLine(packet);
            reduceLine();
            return lineLead() == NONE;
        }

        int derivedValue(int i) {
            return line[i];
        }

        private void setSumLine(int symbols, int i) {
            Arrays.fill(line, 0);
            for (int j = 0; j < symbols; j++) {
                int a = 1 + j / SUMS % (SUMS - 1);
                if (j % SUMS == i || (j + a) % SUMS == i || (j + 2 * a) % SUMS == i) {
                    line[bytes + j] = 1;
                }
            }
            line[bytes + symbols + i] = 1;
        }

        private void setPowerLine(int symbols, int i) {
            Arrays.fill(line, 0);
            for (int j = 0; j < symbols + SUMS; j++) {
                line[bytes + j] = field.powerOfTwo(j * (i + 1));
            }
            line[bytes + symbols + SUMS + i] = 1;
        }

        private void reduceLine() {
            for (int p = 0; p < inner; p++) {
                int factor = line[bytes + p];
                if (factor != 0 && leads[p]) {
                    field.addTimes(line, rows[p], factor, bytes + p + 1);
                }
            }
        }

        private int lineLead() {
            for (int p = inner - 1; p >= 0; p--) {
                if (line[bytes + p] != 0) {
                    return p;
                }
            }
            return NONE;
        }

        private boolean hasValueLeft() {
            for (int i = 0; i < bytes; i++) {
                if (line[i] != 0) {
                    return true;
                }
            }
            return false;
        }

        private void keepLine(int lead) {
            int scale = field.inverse(line[bytes + lead]);
            int[] kept = rows[lead];
            for (int j = 0; j < bytes + inner; j++) {
                kept[j] = field.times(scale, line[j]);
            }
            for (int p = lead + 1; p < inner; p++) {
                int factor = rows[p][bytes + lead];
                if (factor != 0 && leads[p]) {
                    field.addTimes(rows[p], kept, factor, bytes + lead + 1);
                }
            }
            leads[lead] = true;
            rank++;
        }
    }

    /** The turns of all K, each searched for when it is first asked for. */
    private static final class Turns {
        /** Far above what any K needs. */
        private static final int MOST_TRIES = 1000;

        private final Equations work;
        private final PacketRow packet;
        private final int[] found;

        Turns(Equations work, PacketRow packet) {
            this.work = work;
            this.packet = packet;
            found = new int[MOST_SYMBOLS + 1];
            Arrays.fill(found, NONE);
        }

        int of(int symbols) {
            if (found[symbols] == NONE) {
                int turn = 0;
                while (turn < MOST_TRIES && !fillsRank(symbols, turn)) {
                    turn++;
                }
                found[symbols] = turn;
            }
            return found[symbols];
        }

        private boolean fillsRank(int symbols, int turn) {
            work.start(symbols, 0);
            for (int x = 0; x < symbols; x++) {
                packet.find(symbols, x, turn);
                work.setLine(packet);
                if (work.learn() != 1) {
                    return false;
                }
            }
            return true;
        }
    }

    /** The inner rows of the block; without a block its counts are 0. */
    private static final class Block {
        private final int[][] innerBytes;
        private int symbols;
        private int bytes;
        private int turn;

        Block() {
            innerBytes = new int[MOST_INNER][MOST_BYTES];
            symbols = 0;
            bytes = 0;
            turn = 0;
        }

        /** Takes over what equations of full rank say: then each row has its lead alone. */
        void load(Equations solved, int symbols, int turn) {
            this.symbols = symbols;
            this.turn = turn;
            bytes = solved.bytes;
            for (int p = 0; p < solved.inner; p++) {
                System.arraycopy(solved.rows[p], 0, innerBytes[p], 0, bytes);
            }
        }

        int valueOf(PacketRow packet, int i) {
            int sum = 0;
            for (int j = 0; j < packet.size; j++) {
                sum ^= innerBytes[packet.places[j]][i];
            }
            return sum;
        }
    }

    /** What was caught; without a catcher its counts are 0. */
    private static final class Catcher {
        private final Equations equations;
        private int symbols;
        private int bytes;
        private int turn;
        private int caught;

        Catcher(Field field) {
            equations = new Equations(field);
            symbols = 0;
            bytes = 0;
            turn = 0;
            caught = 0;
        }

        void begin(int symbols, int bytes, int turn) {
            this.symbols = symbols;
            this.bytes = bytes;
            this.turn = turn;
            caught = 0;
            equations.start(symbols, bytes);
        }

        /** By how much the rank grew, or NONE if the line was refused. */
        int catchLine() {
            int grown = equations.learn();
            if (grown != NONE) {
                caught++;
            }
            return grown;
        }
    }
}
