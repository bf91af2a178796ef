import java.math.BigInteger;

/** Writes a tile out of the symbols that shall be read from it: the decoder's arithmetic, backwards. */
final class TileWriter {
    private static final int[] ZIGZAG = {0, 1, 4, 8, 5, 2, 3, 6, 9, 12, 13, 10, 7, 11, 14, 15};

    private final boolean still;
    private final long[][] tables = new long[19][];
    private final long[] read = new long[19];
    private BigInteger low = BigInteger.ZERO;
    private long range = 32768;
    private int bits = 15;
    private int symbols;
    private long narrowest = 32768;

    TileWriter(boolean still) {
        this.still = still;
        for (int t = 0; t < 19; t++) {
            tables[t] = Model.fresh(Model.TABLE_SIZES[t]);
        }
    }

    int symbols() {
        return symbols;
    }

    /** How many bits are taken for what was written. */
    int taken() {
        return bits;
    }

    long table(int t, int i) {
        return tables[t][i];
    }

    /** The least that RANGE was before it was doubled. */
    long narrowest() {
        return narrowest;
    }

    /** Whether a symbol can come next: numbers of a table may be so near to each other that it cannot. */
    boolean hasRoom(int t, int k) {
        return range * tables[t][k] >> 15 > (k == 0 ? 0 : range * tables[t][k - 1] >> 15);
    }

    TileWriter symbol(int t, int k) {
        put(tables[t], k);
        if (!still) {
            Model.adapt(tables[t], k, read[t]);
        }
        read[t]++;
        return this;
    }

    TileWriter bit(int k) {
        put(new long[] {16384, 32768}, k);
        return this;
    }

    private void put(long[] table, int k) {
        symbols++;
        long from = k == 0 ? 0 : range * table[k - 1] >> 15;
        low = low.add(BigInteger.valueOf(from));
        range = (range * table[k] >> 15) - from;
        if (range <= 0) {
            throw new IllegalStateException("there is no room for the symbol " + k);
        }
        narrowest = Math.min(narrowest, range);
        while (range < 16384) {
            range *= 2;
            low = low.shiftLeft(1);
            bits++;
        }
    }

    /** The differences of a unit are all 0. */
    TileWriter none(int plane) {
        return symbol(plane == 0 ? 8 : 9, 1);
    }

    /** The numbers that stand in a unit before they are transformed, by row and column. */
    TileWriter numbers(int plane, int... values) {
        int last = 15;
        while (last > 0 && values[ZIGZAG[last]] == 0) {
            last--;
        }
        if (values[ZIGZAG[last]] == 0) {
            return none(plane);
        }
        symbol(plane == 0 ? 8 : 9, 0);
        symbol(plane == 0 ? 11 : 12, last);
        for (int k = last; k >= 0; k--) {
            number((plane == 0 ? 13 : 16) + (k == 0 ? 0 : k < 6 ? 1 : 2), values[ZIGZAG[k]], k == last);
        }
        return this;
    }

    private void number(int table, int value, boolean isLast) {
        int size = Math.abs(value) - (isLast ? 1 : 0);
        symbol(table, Math.min(size, 3));
        if (size >= 3) {
            int more = size - 3;
            int zeros = 31 - Integer.numberOfLeadingZeros(more + 1);
            for (int i = 0; i < zeros; i++) {
                bit(0);
            }
            bit(1);
            int rest = more - ((1 << zeros) - 1);
            for (int i = zeros - 1; i >= 0; i--) {
                bit((rest >> i) & 1);
            }
        }
        if (value != 0) {
            bit(value < 0 ? 1 : 0);
        }
    }

    /** Differences of a unit where Q is 0; each is a multiple of 4, so that they come out exactly. */
    TileWriter differences(int plane, int... wanted) {
        int[] values = new int[16];
        int[][] h = {{1, 1, 1, 1}, {1, 1, -1, -1}, {1, -1, -1, 1}, {1, -1, 1, -1}};
        for (int to = 0; to < 16; to++) {
            int sum = 0;
            for (int from = 0; from < 16; from++) {
                sum += h[to / 4][from / 4] * h[to % 4][from % 4] * wanted[from];
            }
            values[to] = sum / 4;
        }
        return numbers(plane, values);
    }

    int[] bytes() {
        BigInteger padded = low;
        int length = bits;
        while (length % 8 != 0) {
            padded = padded.shiftLeft(1);
            length++;
        }
        int[] all = new int[length / 8];
        for (int i = 0; i < all.length; i++) {
            all[i] = padded.shiftRight(length - 8 - 8 * i).intValue() & 255;
        }
        return all;
    }
}
