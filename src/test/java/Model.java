import java.util.ArrayList;
import java.util.List;

/**
 * The document written down a second time, in another way (trees, lists, exceptions, no reuse), so
 * that the program can be held against it over many files.
 */
final class Model {
    static final int[] TABLE_SIZES = {2, 2, 6, 6, 6, 6, 7, 7, 2, 2, 4, 16, 16, 4, 4, 4, 4, 4, 4};
    private static final int[] ZIGZAG = {0, 1, 4, 8, 5, 2, 3, 6, 9, 12, 13, 10, 7, 11, 14, 15};

    private static final class Stop extends RuntimeException {
        private static final long serialVersionUID = 1L;
        final int code;

        Stop(int code) {
            super(null, null, false, false);
            this.code = code;
        }
    }

    private record Box(int type, int from, int to, List<Box> inside) {
        int length() {
            return to - from;
        }
    }

    private record Block(int x, int y, int size, int mode, int colour, int type, int[] shares) {
    }

    private final int[] file;
    private int boxCount;
    private final List<Integer> data = new ArrayList<>();
    private Box s;
    private Box c;
    private Box x;

    int code;
    int layout;
    int ten;
    int width;
    int height;
    int soft;
    int q;
    int still;
    int level;
    int strength;
    private boolean sequenceSeen;

    private int[] tile;
    private long range = 32768;
    private long value;
    int taken;
    int symbols;
    final long[][] tables = new long[19][];
    private final long[] read = new long[19];
    final Block[][] at = new Block[16][16];
    int blocks;
    long[][][] samples;

    Model(int[] file) {
        this.file = file;
        try {
            decode();
            code = 0;
        } catch (Stop stop) {
            code = stop.code;
        }
    }

    int depth() {
        return ten == 1 ? 10 : 8;
    }

    int planes() {
        return layout == 0 ? 1 : 3;
    }

    int told(int px, int py, int w) {
        Block b = at[py][px];
        return new int[] {b.size(), b.mode(), b.colour(), b.type()}[w];
    }

    private static void must(boolean holds, int code) {
        if (!holds) {
            throw new Stop(code);
        }
    }

    private void decode() {
        List<Box> top = boxes(0, file.length, 1);
        must(!top.isEmpty() && top.get(0).type() == 'f', 2);
        boolean branded = false;
        for (int i = top.get(0).from(); i < top.get(0).to(); i++) {
            branded = branded || file[i] == 'v';
        }
        must(branded, 2);
        Box m = first(top, 'm');
        must(m != null, 3);
        Box p = first(m.inside(), 'p');
        Box l = first(m.inside(), 'l');
        Box r = first(m.inside(), 'r');
        must(p != null && l != null && r != null, 3);
        Box a = first(r.inside(), 'a');
        must(a != null && p.length() > 0, 3);
        int item = file[p.from()];
        extents(l, item);
        properties(r, a, item);
        units();
    }

    private List<Box> boxes(int from, int to, int depth) {
        List<Box> found = new ArrayList<>();
        int place = from;
        while (place < to) {
            boxCount++;
            must(boxCount <= 16 && depth < 5 && place + 2 <= to, 1);
            int n = file[place];
            must(n != 1, 1);
            int end = n == 0 ? to : place + n;
            must(end <= to, 1);
            int type = file[place + 1];
            List<Box> inside =
                type == 'm' || type == 'r' ? boxes(place + 2, end, depth + 1) : new ArrayList<>();
            found.add(new Box(type, place + 2, end, inside));
            place = end;
        }
        return found;
    }

    private static Box first(List<Box> list, int type) {
        for (Box b : list) {
            if (b.type() == type) {
                return b;
            }
        }
        return null;
    }

    private void extents(Box l, int item) {
        int[] place = {l.from()};
        int entries = byteOf(place, l.to());
        while (entries-- > 0) {
            int who = byteOf(place, l.to());
            int pairs = byteOf(place, l.to());
            while (pairs-- > 0) {
                int offset = byteOf(place, l.to());
                int length = byteOf(place, l.to());
                if (who == item) {
                    must(offset + length <= file.length && data.size() + length <= 200, 4);
                    for (int i = 0; i < length; i++) {
                        data.add(file[offset + i]);
                    }
                }
            }
            if (who == item) {
                return;
            }
        }
        throw new Stop(3);
    }

    private int byteOf(int[] place, int end) {
        must(place[0] < end, 3);
        return file[place[0]++];
    }

    private void properties(Box r, Box a, int item) {
        List<Box> known = new ArrayList<>();
        known.add(null);
        for (Box b : r.inside()) {
            if (b.type() != 'a') {
                known.add(b);
            }
        }
        List<Box> mine = new ArrayList<>();
        int[] place = {a.from()};
        while (place[0] < a.to()) {
            int who = byteOf(place, a.to());
            int n = byteOf(place, a.to());
            for (int i = 0; i < n; i++) {
                int b = byteOf(place, a.to());
                if (who != item || b % 128 == 0) {
                    continue;
                }
                must(b % 128 < known.size(), 3);
                Box property = known.get(b % 128);
                must(b < 128 || "sxc".indexOf(property.type()) >= 0, 5);
                mine.add(property);
            }
        }
        s = first(mine, 's');
        c = first(mine, 'c');
        x = first(mine, 'x');
        must(s != null && c != null && s.length() >= 2 && c.length() >= 1, 3);
        must(x == null || x.length() >= 1 && x.length() >= 1 + file[x.from()], 3);
    }

    private void units() {
        int place = 0;
        while (true) {
            must(place < data.size(), 7);
            int h = data.get(place++);
            must(h < 128, 7);
            must((h & 4) == 0, 5);
            int size = data.size() - place;
            if ((h & 2) != 0) {
                size = 0;
                for (int i = 0; ; i++) {
                    must(i < 3 && place < data.size(), 7);
                    int b = data.get(place++);
                    size += b % 128 * (int) Math.pow(128, i);
                    if (b < 128) {
                        break;
                    }
                }
                must(size <= data.size() - place, 7);
            }
            StringBuilder bits = new StringBuilder();
            for (int i = 0; i < size; i++) {
                bits.append(Integer.toBinaryString(256 + data.get(place + i)).substring(1));
            }
            if (h >> 3 == 1) {
                sequence(bits);
            } else if (h >> 3 == 6) {
                must(sequenceSeen, 7);
                frame(bits);
                tree(16, 0, 0);
                filter();
                return;
            }
            place += size;
        }
    }

    private static int bits(StringBuilder bits, int n) {
        must(bits.length() >= n, 7);
        int v = Integer.parseInt(bits.substring(0, n), 2);
        bits.delete(0, n);
        return v;
    }

    private void sequence(StringBuilder bits) {
        layout = bits(bits, 2);
        must(layout < 2, 5);
        ten = bits(bits, 1);
        width = bits(bits, 4) + 1;
        height = bits(bits, 4) + 1;
        must(bits(bits, 1) == 0, 5);
        must(bits(bits, 1) == 0, 5);
        soft = bits(bits, 1);
        must(file[s.from()] == width && file[s.from() + 1] == height, 6);
        must(file[c.from()] == layout + 4 * ten, 6);
        if (x != null) {
            must(file[x.from()] == planes(), 6);
            for (int i = 0; i < planes(); i++) {
                must(file[x.from() + 1 + i] == depth(), 6);
            }
        }
        sequenceSeen = true;
    }

    private void frame(StringBuilder bits) {
        must(bits(bits, 2) == 0, 5);
        must(bits(bits, 1) == 0, 5);
        q = bits(bits, 6);
        still = bits(bits, 1);
        level = bits(bits, 3);
        strength = soft == 1 ? bits(bits, 2) : 0;
        bits.delete(0, bits.length() % 8);
        tile = bits.chars().map(b -> b - '0').toArray();
        for (int i = 0; i < 15; i++) {
            more();
        }
        for (int t = 0; t < 19; t++) {
            tables[t] = fresh(TABLE_SIZES[t]);
        }
        samples = new long[planes()][16][16];
    }

    static long[] fresh(int n) {
        long[] table = new long[n];
        for (int i = 0; i < n; i++) {
            table[i] = 32768L * (i + 1) / n;
        }
        return table;
    }

    private void more() {
        value = 2 * value + (taken < tile.length ? tile[taken] : 0);
        taken++;
    }

    private int choose(long[] table) {
        symbols++;
        long before = 0;
        int k = 0;
        while (value >= range * table[k] / 32768) {
            before = range * table[k] / 32768;
            k++;
        }
        range = range * table[k] / 32768 - before;
        value -= before;
        while (range < 16384) {
            range *= 2;
            more();
        }
        return k;
    }

    private int symbol(int t) {
        int k = choose(tables[t]);
        if (still == 0) {
            adapt(tables[t], k, read[t]);
        }
        read[t]++;
        return k;
    }

    static void adapt(long[] table, int k, long readBefore) {
        int e = 4;
        if (readBefore > 15) {
            e++;
        }
        if (table.length > 4) {
            e++;
        }
        for (int i = 0; i <= table.length - 2; i++) {
            if (i >= k) {
                table[i] += (32768 - table[i]) >> e;
            } else {
                table[i] -= table[i] >> e;
            }
        }
    }

    private int bit() {
        return choose(new long[] {16384, 32768});
    }

    private void tree(int z, int px, int py) {
        if (px >= width || py >= height) {
            return;
        }
        if (z == 4 || symbol(z == 16 ? 0 : 1) == 0) {
            block(z, px, py);
            return;
        }
        int half = z / 2;
        tree(half, px, py);
        tree(half, px + half, py);
        tree(half, px, py + half);
        tree(half, px + half, py + half);
    }

    private void block(int z, int px, int py) {
        int u = py > 0 && at[py - 1][px].mode() != 0 ? 1 : 0;
        int v = px > 0 && at[py][px - 1].mode() != 0 ? 1 : 0;
        int mode = symbol(2 + u + 2 * v);
        int colour = 0;
        int[] shares = {0, 0, 0};
        if (planes() == 3) {
            colour = symbol(6);
            if (colour == 6) {
                shares[1] = symbol(7) - 3;
                shares[2] = symbol(7) - 3;
            }
        }
        int type = q != 0 ? symbol(10) : 0;
        Block made = new Block(px, py, z, mode, colour, type, shares);
        blocks++;
        for (int j = py; j < py + z; j++) {
            for (int i = px; i < px + z; i++) {
                at[j][i] = made;
            }
        }
        for (int p = 0; p < planes(); p++) {
            for (int j = py; j < py + z; j += 4) {
                for (int i = px; i < px + z; i += 4) {
                    if (i < width && j < height) {
                        unit(p, i, j, made);
                    }
                }
            }
        }
    }

    private long clamp(long v) {
        long most = (1L << depth()) - 1;
        return v < 0 ? 0 : v > most ? most : v;
    }

    private void unit(int p, int px, int py, Block b) {
        long[][] differences = differences(p, b);
        long[][] made = new long[4][4];
        for (int j = 0; j < 4; j++) {
            for (int i = 0; i < 4; i++) {
                made[j][i] = clamp(prediction(p, px, py, b, i, j) + differences[j][i]);
            }
        }
        for (int j = 0; j < 4; j++) {
            for (int i = 0; i < 4; i++) {
                samples[p][py + j][px + i] = made[j][i];
            }
        }
    }

    private long above(int p, int px, int py, int i) {
        if (py != 0) {
            return samples[p][py - 1][px + i];
        }
        return px != 0 ? samples[p][py][px - 1] : 1L << (depth() - 1);
    }

    private long left(int p, int px, int py, int j) {
        if (px != 0) {
            return samples[p][py + j][px - 1];
        }
        return py != 0 ? samples[p][py - 1][px] : 1L << (depth() - 1);
    }

    private long corner(int p, int px, int py) {
        if (px != 0 && py != 0) {
            return samples[p][py - 1][px - 1];
        }
        return py != 0 ? above(p, px, py, 0) : left(p, px, py, 0);
    }

    private long prediction(int p, int px, int py, Block b, int i, int j) {
        int mode = p == 0 ? b.mode() : b.colour();
        long ai = above(p, px, py, i);
        long lj = left(p, px, py, j);
        if (mode == 1) {
            return ai;
        }
        if (mode == 2) {
            return lj;
        }
        if (mode == 3) {
            long cc = corner(p, px, py);
            long aim = ai + lj - cc;
            long toLeft = Math.abs(aim - lj);
            long toAbove = Math.abs(aim - ai);
            long toCorner = Math.abs(aim - cc);
            if (toLeft <= toAbove && toLeft <= toCorner) {
                return lj;
            }
            return toAbove <= toCorner ? ai : cc;
        }
        if (mode == 4) {
            int w = 7 - 2 * j;
            int v = 7 - 2 * i;
            return (w * ai + (8 - w) * left(p, px, py, 3) + v * lj + (8 - v) * above(p, px, py, 3) + 8) >> 4;
        }
        if (mode == 5) {
            int k = i + j < 3 ? i + j : 3;
            int m = i + j + 1 < 3 ? i + j + 1 : 3;
            return (above(p, px, py, k) + above(p, px, py, m) + 1) >> 1;
        }
        long sum = 4;
        for (int k = 0; k < 4; k++) {
            sum += above(p, px, py, k) + left(p, px, py, k);
        }
        if (mode == 0) {
            return sum >> 3;
        }
        long of16 = 8;
        for (int n = 0; n < 16; n++) {
            of16 += samples[0][py + n / 4][px + n % 4];
        }
        long over = samples[0][py + j][px + i] - (of16 >> 4);
        return clamp((sum >> 3) + ((b.shares()[p] * over + 2) >> 2));
    }

    private long[][] differences(int p, Block b) {
        long[][] d = new long[4][4];
        if (symbol(p == 0 ? 8 : 9) == 1) {
            return d;
        }
        int t = symbol(p == 0 ? 11 : 12);
        for (int k = t; k >= 0; k--) {
            int table = (p == 0 ? 13 : 16) + (k == 0 ? 0 : k < 6 ? 1 : 2);
            int size = symbol(table);
            long m = size + (k == t ? 1 : 0);
            if (size == 3) {
                int o = 0;
                while (bit() == 0) {
                    o++;
                    must(o < 13, 8);
                }
                int more = 0;
                for (int i = 0; i < o; i++) {
                    more = more * 2 + bit();
                }
                m += (1 << o) - 1 + more;
            }
            if (m != 0 && bit() == 1) {
                m = -m;
            }
            d[ZIGZAG[k] / 4][ZIGZAG[k] % 4] = m;
        }
        return q == 0 ? lossless(d) : scaled(d, b.type());
    }

    private static long[][] turned(long[][] d) {
        long[][] r = new long[4][4];
        for (int j = 0; j < 4; j++) {
            for (int i = 0; i < 4; i++) {
                r[i][j] = d[j][i];
            }
        }
        return r;
    }

    private static long[] mixed(long[] x) {
        return new long[] {
            x[0] + x[1] + x[2] + x[3], x[0] + x[1] - x[2] - x[3],
            x[0] - x[1] - x[2] + x[3], x[0] - x[1] + x[2] - x[3],
        };
    }

    private static long[][] lossless(long[][] d) {
        for (int j = 0; j < 4; j++) {
            d[j] = mixed(d[j]);
        }
        d = turned(d);
        for (int j = 0; j < 4; j++) {
            d[j] = mixed(d[j]);
            for (int i = 0; i < 4; i++) {
                d[j][i] = d[j][i] >> 2;
            }
        }
        return turned(d);
    }

    private static long limit(long v) {
        return v < -32767 ? -32767 : v > 32767 ? 32767 : v;
    }

    private static long[] wave(long[] x, boolean plain) {
        long[] y = new long[4];
        int[][] abc = {{3784, 2896, 1567}, {1567, -2896, -3784}, {-1567, -2896, 3784}, {-3784, 2896, -1567}};
        for (int i = 0; i < 4; i++) {
            y[i] = plain ? (5793 * x[i] + 2048) >> 12
                : (2896 * x[0] + abc[i][0] * x[1] + abc[i][1] * x[2] + abc[i][2] * x[3] + 2048) >> 12;
        }
        return y;
    }

    private long[][] scaled(long[][] d, int type) {
        for (int j = 0; j < 4; j++) {
            for (int i = 0; i < 4; i++) {
                d[j][i] = limit(d[j][i] * (i == 0 && j == 0 ? 4 + 2 * q : 4 + 3 * q));
            }
            d[j] = wave(d[j], type % 2 == 1);
            for (int i = 0; i < 4; i++) {
                d[j][i] = limit(d[j][i]);
            }
        }
        d = turned(d);
        for (int i = 0; i < 4; i++) {
            d[i] = wave(d[i], type >= 2);
            for (int j = 0; j < 4; j++) {
                d[i][j] = (d[i][j] + 8) >> 4;
            }
        }
        return turned(d);
    }

    private void filter() {
        for (int p = 0; p < planes(); p++) {
            long[][] plane = samples[p];
            if (level != 0) {
                for (int px = 4; px < width; px += 4) {
                    for (int py = 0; py < height; py++) {
                        if (at[py][px - 1] != at[py][px]) {
                            long[] e = edge(plane[py][px - 2], plane[py][px - 1], plane[py][px], plane[py][px + 1]);
                            plane[py][px - 1] = e[0];
                            plane[py][px] = e[1];
                        }
                    }
                }
                for (int py = 4; py < height; py += 4) {
                    for (int px = 0; px < width; px++) {
                        if (at[py - 1][px] != at[py][px]) {
                            long[] e = edge(plane[py - 2][px], plane[py - 1][px], plane[py][px], plane[py + 1][px]);
                            plane[py - 1][px] = e[0];
                            plane[py][px] = e[1];
                        }
                    }
                }
            }
            if (strength != 0) {
                samples[p] = softened(plane);
            }
        }
    }

    private long[] edge(long p1, long p0, long q0, long q1) {
        long t = level * (depth() == 10 ? 4 : 1);
        if (p0 - q0 > 4 * t || q0 - p0 > 4 * t) {
            return new long[] {p0, q0};
        }
        long e = (3 * (q0 - p0) + p1 - q1 + 4) >> 3;
        e = e < -t ? -t : e > t ? t : e;
        return new long[] {clamp(p0 + e), clamp(q0 - e)};
    }

    private long[][] softened(long[][] plane) {
        long t = strength * (depth() == 10 ? 4 : 1);
        long[][] made = new long[16][16];
        int[][] steps = {{-1, 0}, {1, 0}, {0, -1}, {0, 1}};
        for (int py = 0; py < height; py++) {
            for (int px = 0; px < width; px++) {
                long f = 0;
                for (int[] step : steps) {
                    int nx = px + step[0];
                    int ny = py + step[1];
                    if (nx >= 0 && nx < width && ny >= 0 && ny < height) {
                        long n = plane[ny][nx] - plane[py][px];
                        long most = 4 * t - (Math.abs(n) >> 1);
                        most = most < 0 ? 0 : most;
                        f += n > most ? most : n < -most ? -most : n;
                    }
                }
                made[py][px] = plane[py][px] + ((f + 2) >> 2);
            }
        }
        return made;
    }
}
