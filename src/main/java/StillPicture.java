import java.util.Arrays;

/** Decodes a small still picture from a file of boxes; ../shared/DOC.md has its promises. */
public final class StillPicture {
    public static final int FINE = 0;
    public static final int BOXES = 1;
    public static final int BRAND = 2;
    public static final int ABSENT = 3;
    public static final int EXTENT = 4;
    public static final int FEATURE = 5;
    public static final int MISMATCH = 6;
    public static final int STREAM = 7;
    public static final int DATA = 8;

    private static final int MOST_BYTES = 240;

    private final int[] file;
    private final Boxes boxes;
    private final Item item;
    private final Header header;
    private final Coder coder;
    private final Picture picture;
    private final Tile tile;
    private final Filter filter;
    private int length;
    private boolean decoded;

    public StillPicture() {
        file = new int[MOST_BYTES];
        boxes = new Boxes(file);
        item = new Item(file, boxes);
        header = new Header(item);
        coder = new Coder(item.data);
        picture = new Picture();
        tile = new Tile(header, coder, picture);
        filter = new Filter(header, picture);
        length = 0;
        decoded = false;
    }

    public boolean add(int b) {
        if (!isByte(b) || length >= MOST_BYTES) {
            return false;
        }
        file[length] = b;
        length++;
        return true;
    }

    public boolean word(int v) {
        if (length > MOST_BYTES - 4) {
            return false;
        }
        for (int i = 0; i < 4; i++) {
            file[length + i] = (v >> (24 - 8 * i)) & 255;
        }
        length += 4;
        return true;
    }

    public int patch(int k, int b) {
        if (k < 0 || k >= length || !isByte(b)) {
            return -1;
        }
        int old = file[k];
        file[k] = b;
        return old;
    }

    public void clear() {
        length = 0;
    }

    public int size() {
        return length;
    }

    public int decode() {
        // The old picture's rows are used again, so it is gone whatever comes of this.
        decoded = false;
        int code = boxes.read(length);
        if (code == FINE) {
            code = item.find(length);
        }
        if (code == FINE) {
            code = header.read();
        }
        if (code == FINE) {
            code = tile.read();
        }
        if (code == FINE) {
            filter.run();
            decoded = true;
        }
        return code;
    }

    public int planes() {
        return decoded ? header.planeCount : 0;
    }

    public int width() {
        return decoded ? header.width : 0;
    }

    public int height() {
        return decoded ? header.height : 0;
    }

    public int depth() {
        return decoded ? header.depth : 0;
    }

    public int sample(int p, int x, int y) {
        if (!isInPicture(x, y) || p < 0 || p >= header.planeCount) {
            return -1;
        }
        return picture.samples[Picture.placeOf(p, x, y)];
    }

    public int block(int x, int y, int w) {
        if (!isInPicture(x, y) || w < 0 || w > 3) {
            return -1;
        }
        return picture.tellOf(picture.ownerAt(x, y), w);
    }

    public int blocks() {
        return decoded ? picture.blockCount : 0;
    }

    public int symbols() {
        return decoded ? coder.symbolCount : 0;
    }

    public int taken() {
        return decoded ? coder.bitCount : 0;
    }

    public int table(int t, int i) {
        return decoded ? coder.numberOf(t, i) : -1;
    }

    private boolean isInPicture(int x, int y) {
        return decoded && x >= 0 && x < header.width && y >= 0 && y < header.height;
    }

    private static boolean isByte(int b) {
        return b >= 0 && b <= 255;
    }

    /** Reads a part of a row of bytes, whole bytes or bits; -1 stands for what is not there. */
    private static final class Cursor {
        private final int[] bytes;
        private int at;
        private int end;
        private int bit;

        Cursor(int[] bytes) {
            this.bytes = bytes;
        }

        void open(int from, int to) {
            at = Math.max(from, 0);
            end = Math.min(to, bytes.length);
            bit = 0;
        }

        int left() {
            return end - at;
        }

        int nextByte() {
            if (at >= end) {
                return -1;
            }
            int b = bytes[at];
            at++;
            return b;
        }

        boolean skip(int count) {
            if (count < 0 || count > end - at) {
                return false;
            }
            at += count;
            return true;
        }

        int nextBits(int count) {
            int number = 0;
            for (int i = 0; i < count; i++) {
                if (at >= end) {
                    return -1;
                }
                number = 2 * number + ((bytes[at] >> (7 - bit)) & 1);
                bit++;
                if (bit == 8) {
                    bit = 0;
                    at++;
                }
            }
            return number;
        }

        void skipRestOfByte() {
            if (bit != 0) {
                bit = 0;
                at++;
            }
        }
    }

    /** Step 1: the boxes of the file; those of one stretch have rising numbers. */
    private static final class Boxes {
        private static final int MOST = 16;
        private static final int MOST_DEEP = 4;
        private static final int FILE = -1;

        private final int[] file;
        private final int[] type = new int[MOST];
        private final int[] from = new int[MOST];
        private final int[] to = new int[MOST];
        private final int[] holder = new int[MOST];
        private final int[] level = new int[MOST];
        private int count;

        Boxes(int[] file) {
            this.file = file;
        }

        int read(int length) {
            count = 0;
            if (!readStretch(0, length, FILE)) {
                return BOXES;
            }
            // The count grows while boxes are opened, so that those found inside have their turn.
            for (int b = 0; b < MOST && b < count; b++) {
                boolean isStretch = type[b] == 'm' || type[b] == 'r';
                if (isStretch && !readStretch(from[b], to[b], b)) {
                    return BOXES;
                }
            }
            return FINE;
        }

        private boolean readStretch(int start, int end, int owner) {
            int deep = owner == FILE ? 1 : level[owner] + 1;
            int at = start;
            for (int i = 0; i <= MOST && at < end; i++) {
                if (end - at < 2 || count >= MOST || deep > MOST_DEEP) {
                    return false;
                }
                int bytes = file[at] == 0 ? end - at : file[at];
                if (bytes < 2 || bytes > end - at) {
                    return false;
                }
                type[count] = file[at + 1];
                from[count] = at + 2;
                to[count] = at + bytes;
                holder[count] = owner;
                level[count] = deep;
                count++;
                at += bytes;
            }
            return true;
        }

        /** The first box of a type in a stretch; -1 when there is none. */
        int first(int owner, int wanted) {
            for (int b = 0; b < count; b++) {
                if (holder[b] == owner && type[b] == wanted) {
                    return b;
                }
            }
            return -1;
        }

        /** The box that is a property, by its number from 1; -1 when there is none. */
        int property(int owner, int number) {
            int seen = 0;
            for (int b = 0; b < count; b++) {
                if (holder[b] == owner && type[b] != 'a') {
                    seen++;
                    if (seen == number) {
                        return b;
                    }
                }
            }
            return -1;
        }

        boolean isBranded() {
            // The file's own boxes are found before all others: number 0 is its first.
            if (count == 0 || type[0] != 'f') {
                return false;
            }
            for (int i = from[0]; i < to[0]; i++) {
                if (file[i] == 'v') {
                    return true;
                }
            }
            return false;
        }

        int contentLength(int box) {
            return to[box] - from[box];
        }
    }

    /** Steps 2 to 5: the item, its data and its properties. */
    private static final class Item {
        private static final int MOST_DATA = 200;
        private static final int NONE = -1;

        private final int[] file;
        private final Boxes boxes;
        private final Cursor cursor;
        private final int[] data = new int[MOST_DATA];
        private int dataLength;
        private int fileLength;
        private int name;
        private int holder;
        private int shapeBox;
        private int colourBox;
        private int extraBox;

        Item(int[] file, Boxes boxes) {
            this.file = file;
            this.boxes = boxes;
            cursor = new Cursor(file);
        }

        int find(int length) {
            fileLength = length;
            if (!boxes.isBranded()) {
                return BRAND;
            }
            int all = boxes.first(Boxes.FILE, 'm');
            if (all < 0) {
                return ABSENT;
            }
            int chosen = boxes.first(all, 'p');
            int places = boxes.first(all, 'l');
            holder = boxes.first(all, 'r');
            if (chosen < 0 || places < 0 || holder < 0) {
                return ABSENT;
            }
            int links = boxes.first(holder, 'a');
            if (links < 0 || boxes.contentLength(chosen) == 0) {
                return ABSENT;
            }
            name = file[boxes.from[chosen]];
            int code = readPlaces(places);
            return code == FINE ? readLinks(links) : code;
        }

        private int readPlaces(int box) {
            cursor.open(boxes.from[box], boxes.to[box]);
            int entries = cursor.nextByte();
            for (int i = 0; i < entries; i++) {
                int entry = cursor.nextByte();
                int pairs = cursor.nextByte();
                if (pairs < 0) {
                    return ABSENT;
                }
                if (entry == name) {
                    return readPairs(pairs);
                }
                if (!cursor.skip(2 * pairs)) {
                    return ABSENT;
                }
            }
            return ABSENT;
        }

        private int readPairs(int pairs) {
            dataLength = 0;
            for (int i = 0; i < pairs; i++) {
                int offset = cursor.nextByte();
                int count = cursor.nextByte();
                if (count < 0) {
                    return ABSENT;
                }
                if (offset + count > fileLength || dataLength + count > MOST_DATA) {
                    return EXTENT;
                }
                System.arraycopy(file, offset, data, dataLength, count);
                dataLength += count;
            }
            return FINE;
        }

        private int readLinks(int box) {
            shapeBox = NONE;
            colourBox = NONE;
            extraBox = NONE;
            cursor.open(boxes.from[box], boxes.to[box]);
            for (int i = 0; i < MOST_BYTES && cursor.left() > 0; i++) {
                int code = readLink();
                if (code != FINE) {
                    return code;
                }
            }
            return areLinksWhole() ? FINE : ABSENT;
        }

        private int readLink() {
            int entry = cursor.nextByte();
            int count = cursor.nextByte();
            if (count < 0) {
                return ABSENT;
            }
            for (int i = 0; i < count; i++) {
                int b = cursor.nextByte();
                if (b < 0) {
                    return ABSENT;
                }
                int code = entry == name ? link(b) : FINE;
                if (code != FINE) {
                    return code;
                }
            }
            return FINE;
        }

        private int link(int b) {
            int number = b & 127;
            if (number == 0) {
                return FINE;
            }
            int box = boxes.property(holder, number);
            if (box < 0) {
                return ABSENT;
            }
            int type = boxes.type[box];
            if (type == 's') {
                shapeBox = shapeBox == NONE ? box : shapeBox;
            } else if (type == 'c') {
                colourBox = colourBox == NONE ? box : colourBox;
            } else if (type == 'x') {
                extraBox = extraBox == NONE ? box : extraBox;
            } else if (b >= 128) {
                return FEATURE;
            }
            return FINE;
        }

        private boolean areLinksWhole() {
            if (shapeBox == NONE || colourBox == NONE) {
                return false;
            }
            if (boxes.contentLength(shapeBox) < 2 || boxes.contentLength(colourBox) < 1) {
                return false;
            }
            if (extraBox == NONE) {
                return true;
            }
            int has = boxes.contentLength(extraBox);
            return has > 0 && has > file[boxes.from[extraBox]];
        }

        /** Whether the properties say the same as a sequence. */
        boolean agrees(int width, int height, int colour, int planeCount, int depth) {
            int shape = boxes.from[shapeBox];
            if (file[shape] != width || file[shape + 1] != height) {
                return false;
            }
            if (file[boxes.from[colourBox]] != colour) {
                return false;
            }
            if (extraBox == NONE) {
                return true;
            }
            int extra = boxes.from[extraBox];
            if (file[extra] != planeCount) {
                return false;
            }
            for (int i = 1; i <= planeCount; i++) {
                if (file[extra + i] != depth) {
                    return false;
                }
            }
            return true;
        }
    }

    /** Step 6: the units of the data up to the frame, and what the sequence and the frame say. */
    private static final class Header {
        private static final int SEQUENCE_UNIT = 1;
        private static final int FRAME_UNIT = 6;

        private final Item item;
        private final Cursor units;
        private final Cursor bits;
        private boolean hasSequence;
        private boolean hasFrame;
        private boolean isSoft;
        private int planeCount;
        private int width;
        private int height;
        private int depth;
        private int q;
        private boolean isStill;
        private int level;
        private int strength;
        private int tileFrom;
        private int tileTo;

        Header(Item item) {
            this.item = item;
            units = new Cursor(item.data);
            bits = new Cursor(item.data);
        }

        int read() {
            hasSequence = false;
            hasFrame = false;
            units.open(0, item.dataLength);
            // Each unit takes a byte at least, so that one more finds none.
            for (int i = 0; i <= Item.MOST_DATA; i++) {
                int code = readUnit();
                if (code != FINE || hasFrame) {
                    return code;
                }
            }
            return STREAM;
        }

        private int readUnit() {
            int head = units.nextByte();
            if (head < 0 || head >= 128) {
                return STREAM;
            }
            if ((head & 4) != 0) {
                return FEATURE;
            }
            int count = (head & 2) != 0 ? readCount() : units.left();
            int from = units.at;
            if (!units.skip(count)) {
                return STREAM;
            }
            bits.open(from, from + count);
            int type = head >> 3;
            if (type == SEQUENCE_UNIT) {
                return readSequence();
            }
            if (type == FRAME_UNIT) {
                return hasSequence ? readFrame() : STREAM;
            }
            return FINE;
        }

        /** The size of a unit; -1 when it is not in order. */
        private int readCount() {
            int count = 0;
            for (int shift = 0; shift < 21; shift += 7) {
                int b = units.nextByte();
                if (b < 0) {
                    return -1;
                }
                count += (b & 127) << shift;
                if (b < 128) {
                    return count;
                }
            }
            return -1;
        }

        private int readSequence() {
            int layout = bits.nextBits(2);
            if (layout < 0) {
                return STREAM;
            }
            if (layout > 1) {
                return FEATURE;
            }
            int ten = bits.nextBits(1);
            width = bits.nextBits(4) + 1;
            height = bits.nextBits(4) + 1;
            for (int i = 0; i < 2; i++) {
                int unknown = bits.nextBits(1);
                if (unknown != 0) {
                    return unknown < 0 ? STREAM : FEATURE;
                }
            }
            int soft = bits.nextBits(1);
            if (soft < 0) {
                return STREAM;
            }
            isSoft = soft == 1;
            planeCount = layout == 0 ? 1 : 3;
            depth = ten == 1 ? 10 : 8;
            hasSequence = true;
            return item.agrees(width, height, layout + 4 * ten, planeCount, depth) ? FINE : MISMATCH;
        }

        private int readFrame() {
            int kind = bits.nextBits(2);
            if (kind != 0) {
                return kind < 0 ? STREAM : FEATURE;
            }
            int unknown = bits.nextBits(1);
            if (unknown != 0) {
                return unknown < 0 ? STREAM : FEATURE;
            }
            q = bits.nextBits(6);
            isStill = bits.nextBits(1) == 1;
            level = bits.nextBits(3);
            strength = isSoft ? bits.nextBits(2) : 0;
            if (q < 0 || level < 0 || strength < 0) {
                return STREAM;
            }
            bits.skipRestOfByte();
            tileFrom = bits.at;
            tileTo = bits.end;
            hasFrame = true;
            return FINE;
        }
    }

    /** The adaptive arithmetic decoder and its tables. */
    private static final class Coder {
        private static final int[] COUNTS = {2, 2, 6, 6, 6, 6, 7, 7, 2, 2, 4, 16, 16, 4, 4, 4, 4, 4, 4};
        private static final int TABLES = 19;
        private static final int ROW = 16;
        private static final int WHOLE = 32768;
        private static final int HALF = 16384;
        private static final int MOST_ZEROS = 12;

        private final int[] bytes;
        private final int[] numbers = new int[TABLES * ROW];
        private final int[] uses = new int[TABLES];
        private int tileFrom;
        private int tileTo;
        private boolean isStill;
        private int range;
        private int value;
        private int bitCount;
        private int symbolCount;

        Coder(int[] bytes) {
            this.bytes = bytes;
        }

        void start(int from, int to, boolean still) {
            tileFrom = Math.max(from, 0);
            tileTo = Math.min(to, bytes.length);
            isStill = still;
            symbolCount = 0;
            Arrays.fill(uses, 0);
            for (int t = 0; t < TABLES; t++) {
                for (int i = 0; i < COUNTS[t]; i++) {
                    numbers[t * ROW + i] = WHOLE * (i + 1) / COUNTS[t];
                }
            }
            range = WHOLE;
            value = 0;
            bitCount = 0;
            for (int i = 0; i < 15; i++) {
                takeBit();
            }
        }

        private void takeBit() {
            int place = tileFrom + (bitCount >> 3);
            int bit = place < tileTo ? (bytes[place] >> (7 - (bitCount & 7))) & 1 : 0;
            value = 2 * value + bit;
            bitCount++;
        }

        int readSymbol(int t) {
            int base = t * ROW;
            int last = COUNTS[t] - 1;
            int k = 0;
            int low = 0;
            int high = (range * numbers[base]) >> 15;
            while (k < last && value >= high) {
                k++;
                low = high;
                high = (range * numbers[base + k]) >> 15;
            }
            narrow(low, high);
            if (!isStill) {
                adapt(t, k);
            }
            return k;
        }

        int readBit() {
            int half = range >> 1;
            if (value < half) {
                narrow(0, half);
                return 0;
            }
            narrow(half, range);
            return 1;
        }

        private void narrow(int low, int high) {
            symbolCount++;
            value -= low;
            range = high - low;
            // A range of 1 or more is wide enough after 14 steps.
            for (int i = 0; i < 14 && range < HALF; i++) {
                range = 2 * range;
                takeBit();
            }
        }

        private void adapt(int t, int k) {
            int base = t * ROW;
            int last = COUNTS[t] - 1;
            int rate = 4 + (uses[t] > 15 ? 1 : 0) + (COUNTS[t] > 4 ? 1 : 0);
            for (int i = 0; i < last; i++) {
                int c = numbers[base + i];
                numbers[base + i] = i >= k ? c + ((WHOLE - c) >> rate) : c - (c >> rate);
            }
            uses[t]++;
        }

        /** What is added to a size when its symbol is the greatest; -1 when it is too great. */
        int readExcess() {
            int zeros = 0;
            while (zeros <= MOST_ZEROS && readBit() == 0) {
                zeros++;
            }
            if (zeros > MOST_ZEROS) {
                return -1;
            }
            int number = 0;
            for (int i = 0; i < zeros; i++) {
                number = 2 * number + readBit();
            }
            return (1 << zeros) - 1 + number;
        }

        int numberOf(int t, int i) {
            if (t < 0 || t >= TABLES || i < 0 || i >= COUNTS[t]) {
                return -1;
            }
            return numbers[t * ROW + i];
        }
    }

    /** The samples and the blocks; rows are 16 long whatever the width, as blocks reach beyond it. */
    private static final class Picture {
        private static final int SIDE = 16;
        private static final int PLANE = 256;
        private static final int TOLD = 4;

        private final int[] samples = new int[3 * PLANE];
        private final int[] owners = new int[16];
        private final int[] told = new int[16 * TOLD];
        private int blockCount;
        private int top;

        static int placeOf(int p, int x, int y) {
            return p * PLANE + y * SIDE + x;
        }

        void start(int depth) {
            blockCount = 0;
            top = (1 << depth) - 1;
        }

        int limited(int v) {
            return Math.max(0, Math.min(top, v));
        }

        int middle() {
            return (top + 1) >> 1;
        }

        /** The number of the block that has a place. */
        int ownerAt(int x, int y) {
            return owners[(y >> 2) * 4 + (x >> 2)];
        }

        int tellOf(int number, int w) {
            return told[number * TOLD + w];
        }

        int addBlock(int x, int y, int side) {
            int number = blockCount;
            for (int v = y; v < y + side; v += 4) {
                for (int h = x; h < x + side; h += 4) {
                    owners[v + (h >> 2)] = number;
                }
            }
            blockCount++;
            return number;
        }

        void tell(int number, int w, int what) {
            told[number * TOLD + w] = what;
        }
    }

    /** The differences of one unit: read, scaled and transformed. */
    private static final class Differences {
        private static final int ZERO = 8;
        private static final int LAST = 11;
        private static final int SIZE = 13;
        private static final int[] PLACES = {0, 1, 4, 8, 5, 2, 3, 6, 9, 12, 13, 10, 7, 11, 14, 15};
        private static final int[] WAVES = {
            2896, 3784, 2896, 1567,
            2896, 1567, -2896, -3784,
            2896, -1567, -2896, 3784,
            2896, -3784, 2896, -1567,
        };
        private static final int MOST = 32767;

        private final Coder coder;
        private final int[] values = new int[16];
        private final int[] line = new int[4];

        Differences(Coder coder) {
            this.coder = coder;
        }

        /** Whether they were read; false when one is too great. */
        boolean read(int plane, int q, int type) {
            int second = plane == 0 ? 0 : 1;
            Arrays.fill(values, 0);
            if (coder.readSymbol(ZERO + second) == 1) {
                return true;
            }
            int last = coder.readSymbol(LAST + second);
            for (int k = last; k >= 0; k--) {
                int group = k == 0 ? 0 : k <= 5 ? 1 : 2;
                int symbol = coder.readSymbol(SIZE + 3 * second + group);
                int m = k == last ? symbol + 1 : symbol;
                if (symbol == 3) {
                    int excess = coder.readExcess();
                    if (excess < 0) {
                        return false;
                    }
                    m += excess;
                }
                boolean isNegative = m != 0 && coder.readBit() == 1;
                values[PLACES[k]] = isNegative ? -m : m;
            }
            if (q == 0) {
                mix();
            } else {
                transform(q, type);
            }
            return true;
        }

        private void mix() {
            for (int i = 0; i < 4; i++) {
                mixLine(4 * i, 1);
            }
            for (int i = 0; i < 4; i++) {
                mixLine(i, 4);
            }
            for (int i = 0; i < 16; i++) {
                values[i] >>= 2;
            }
        }

        private void mixLine(int from, int step) {
            int x0 = values[from];
            int x1 = values[from + step];
            int x2 = values[from + 2 * step];
            int x3 = values[from + 3 * step];
            values[from] = x0 + x1 + x2 + x3;
            values[from + step] = x0 + x1 - x2 - x3;
            values[from + 2 * step] = x0 - x1 - x2 + x3;
            values[from + 3 * step] = x0 - x1 + x2 - x3;
        }

        private void transform(int q, int type) {
            for (int i = 0; i < 16; i++) {
                values[i] *= i == 0 ? 4 + 2 * q : 4 + 3 * q;
            }
            limitAll();
            for (int i = 0; i < 4; i++) {
                transformLine(4 * i, 1, (type & 1) != 0);
            }
            limitAll();
            for (int i = 0; i < 4; i++) {
                transformLine(i, 4, (type & 2) != 0);
            }
            for (int i = 0; i < 16; i++) {
                values[i] = (values[i] + 8) >> 4;
            }
        }

        private void limitAll() {
            for (int i = 0; i < 16; i++) {
                values[i] = Math.max(-MOST, Math.min(MOST, values[i]));
            }
        }

        private void transformLine(int from, int step, boolean isPlain) {
            for (int i = 0; i < 4; i++) {
                line[i] = values[from + i * step];
            }
            for (int i = 0; i < 4; i++) {
                int sum = 2048;
                if (isPlain) {
                    sum += 5793 * line[i];
                } else {
                    for (int n = 0; n < 4; n++) {
                        sum += WAVES[4 * i + n] * line[n];
                    }
                }
                values[from + i * step] = sum >> 12;
            }
        }
    }

    /** The prediction of one unit from the samples around it. */
    private static final class Prediction {
        private static final int SHARED = 6;

        private final Picture picture;
        private final int[] values = new int[16];
        private final int[] above = new int[4];
        private final int[] left = new int[4];
        private int corner;
        private int mean;

        Prediction(Picture picture) {
            this.picture = picture;
        }

        void make(int plane, int x, int y, int mode, int share) {
            look(plane, x, y);
            mean = 4;
            for (int i = 0; i < 4; i++) {
                mean += above[i] + left[i];
            }
            mean >>= 3;
            for (int i = 0; i < 16; i++) {
                values[i] = predicted(mode, i & 3, i >> 2);
            }
            if (mode == SHARED) {
                addShare(Picture.placeOf(0, x, y), share);
            }
        }

        private void look(int plane, int x, int y) {
            int[] samples = picture.samples;
            int place = Picture.placeOf(plane, x, y);
            int firstAbove = y != 0 ? samples[place - Picture.SIDE] : picture.middle();
            int firstLeft = x != 0 ? samples[place - 1] : picture.middle();
            // Where one side is missing the other side's first sample stands for it.
            int noAbove = x != 0 ? firstLeft : picture.middle();
            int noLeft = y != 0 ? firstAbove : picture.middle();
            for (int i = 0; i < 4; i++) {
                above[i] = y != 0 ? samples[place - Picture.SIDE + i] : noAbove;
                left[i] = x != 0 ? samples[place - 1 + i * Picture.SIDE] : noLeft;
            }
            if (x != 0 && y != 0) {
                corner = samples[place - Picture.SIDE - 1];
            } else {
                corner = y != 0 ? firstAbove : firstLeft;
            }
        }

        private int predicted(int mode, int i, int j) {
            switch (mode) {
                case 1:
                    return above[i];
                case 2:
                    return left[j];
                case 3:
                    return nearest(left[j], above[i]);
                case 4:
                    return blended(i, j);
                case 5:
                    return (above[Math.min(i + j, 3)] + above[Math.min(i + j + 1, 3)] + 1) >> 1;
                default:
                    return mean;
            }
        }

        private int nearest(int side, int over) {
            int aim = over + side - corner;
            int best = side;
            if (Math.abs(over - aim) < Math.abs(best - aim)) {
                best = over;
            }
            if (Math.abs(corner - aim) < Math.abs(best - aim)) {
                best = corner;
            }
            return best;
        }

        private int blended(int i, int j) {
            int w = 7 - 2 * j;
            int v = 7 - 2 * i;
            int down = w * above[i] + (8 - w) * left[3];
            int across = v * left[j] + (8 - v) * above[3];
            return (down + across + 8) >> 4;
        }

        private void addShare(int place, int share) {
            int[] samples = picture.samples;
            int sum = 8;
            for (int i = 0; i < 16; i++) {
                sum += samples[place + (i >> 2) * Picture.SIDE + (i & 3)];
            }
            int middle = sum >> 4;
            for (int i = 0; i < 16; i++) {
                int y = samples[place + (i >> 2) * Picture.SIDE + (i & 3)];
                values[i] = picture.limited(values[i] + ((share * (y - middle) + 2) >> 2));
            }
        }
    }

    /** Step 7: the blocks of the tile. */
    private static final class Tile {
        private static final int MODE = 2;
        private static final int COLOUR = 6;
        private static final int SHARE = 7;
        private static final int TYPE = 10;
        private static final int UNITS = 16;

        private final Header header;
        private final Coder coder;
        private final Picture picture;
        private final Differences differences;
        private final Prediction prediction;
        private final int[] shares = new int[3];

        Tile(Header header, Coder coder, Picture picture) {
            this.header = header;
            this.coder = coder;
            this.picture = picture;
            differences = new Differences(coder);
            prediction = new Prediction(picture);
        }

        /** The trees in their order are the units of 4 times 4 in the order of their interleaved bits. */
        int read() {
            coder.start(header.tileFrom, header.tileTo, header.isStill);
            picture.start(header.depth);
            int next = 0;
            for (int unit = 0; unit < UNITS; unit++) {
                int x = 4 * (unit & 1) + 2 * (unit & 4);
                int y = 2 * (unit & 2) + (unit & 8);
                // Units before the next one belong to the last block.
                if (unit >= next && x < header.width && y < header.height) {
                    int side = readSide(unit);
                    next = unit + side * side / 16;
                    int number = readBlock(x, y, side);
                    for (int p = 0; p < header.planeCount; p++) {
                        if (!readUnits(p, x, y, number)) {
                            return DATA;
                        }
                    }
                }
            }
            return FINE;
        }

        private int readSide(int unit) {
            if (unit == 0 && coder.readSymbol(0) == 0) {
                return 16;
            }
            if ((unit & 3) == 0 && coder.readSymbol(1) == 0) {
                return 8;
            }
            return 4;
        }

        private int readBlock(int x, int y, int side) {
            int u = y > 0 && picture.tellOf(picture.ownerAt(x, y - 1), 1) != 0 ? 1 : 0;
            int v = x > 0 && picture.tellOf(picture.ownerAt(x - 1, y), 1) != 0 ? 1 : 0;
            int number = picture.addBlock(x, y, side);
            picture.tell(number, 0, side);
            picture.tell(number, 1, coder.readSymbol(MODE + u + 2 * v));
            int colour = header.planeCount == 3 ? coder.readSymbol(COLOUR) : 0;
            picture.tell(number, 2, colour);
            for (int p = 1; p < 3; p++) {
                shares[p] = colour == Prediction.SHARED ? coder.readSymbol(SHARE) - 3 : 0;
            }
            picture.tell(number, 3, header.q != 0 ? coder.readSymbol(TYPE) : 0);
            return number;
        }

        private boolean readUnits(int p, int x, int y, int number) {
            int side = picture.tellOf(number, 0);
            int mode = picture.tellOf(number, p == 0 ? 1 : 2);
            int type = picture.tellOf(number, 3);
            for (int v = y; v < y + side && v < header.height; v += 4) {
                for (int h = x; h < x + side && h < header.width; h += 4) {
                    if (!differences.read(p, header.q, type)) {
                        return false;
                    }
                    prediction.make(p, h, v, mode, shares[p]);
                    mend(Picture.placeOf(p, h, v));
                }
            }
            return true;
        }

        private void mend(int place) {
            for (int i = 0; i < 16; i++) {
                int to = place + (i >> 2) * Picture.SIDE + (i & 3);
                picture.samples[to] = picture.limited(prediction.values[i] + differences.values[i]);
            }
        }
    }

    /** Smooths the edges of the blocks, then softens all samples. */
    private static final class Filter {
        private final Header header;
        private final Picture picture;
        private final int[] softened = new int[Picture.PLANE];

        Filter(Header header, Picture picture) {
            this.header = header;
            this.picture = picture;
        }

        void run() {
            int unit = 1 << (header.depth - 8);
            for (int p = 0; p < header.planeCount; p++) {
                if (header.level != 0) {
                    smoothColumns(p, header.level * unit);
                    smoothRows(p, header.level * unit);
                }
                if (header.strength != 0) {
                    soften(p, header.strength * unit);
                }
            }
        }

        private void smoothColumns(int p, int t) {
            for (int x = 4; x < header.width; x += 4) {
                for (int y = 0; y < header.height; y++) {
                    if (picture.ownerAt(x - 1, y) != picture.ownerAt(x, y)) {
                        smooth(Picture.placeOf(p, x, y), 1, t);
                    }
                }
            }
        }

        private void smoothRows(int p, int t) {
            for (int y = 4; y < header.height; y += 4) {
                for (int x = 0; x < header.width; x++) {
                    if (picture.ownerAt(x, y - 1) != picture.ownerAt(x, y)) {
                        smooth(Picture.placeOf(p, x, y), Picture.SIDE, t);
                    }
                }
            }
        }

        private void smooth(int place, int step, int t) {
            int[] samples = picture.samples;
            int p1 = samples[place - 2 * step];
            int p0 = samples[place - step];
            int q0 = samples[place];
            int q1 = samples[place + step];
            if (Math.abs(q0 - p0) > 4 * t) {
                return;
            }
            int e = (3 * (q0 - p0) + p1 - q1 + 4) >> 3;
            e = Math.max(-t, Math.min(t, e));
            samples[place - step] = picture.limited(p0 + e);
            samples[place] = picture.limited(q0 - e);
        }

        private void soften(int p, int t) {
            int[] samples = picture.samples;
            for (int y = 0; y < header.height; y++) {
                for (int x = 0; x < header.width; x++) {
                    int place = Picture.placeOf(p, x, y);
                    int s = samples[place];
                    int f = x > 0 ? pull(samples[place - 1] - s, t) : 0;
                    f += x + 1 < header.width ? pull(samples[place + 1] - s, t) : 0;
                    f += y > 0 ? pull(samples[place - Picture.SIDE] - s, t) : 0;
                    f += y + 1 < header.height ? pull(samples[place + Picture.SIDE] - s, t) : 0;
                    softened[y * Picture.SIDE + x] = s + ((f + 2) >> 2);
                }
            }
            for (int y = 0; y < header.height; y++) {
                System.arraycopy(softened, y * Picture.SIDE, samples, Picture.placeOf(p, 0, y), header.width);
            }
        }

        /** What a neighbour's difference counts: the greater it is the less it may. */
        private static int pull(int difference, int t) {
            int far = Math.abs(difference);
            int limit = Math.max(0, 4 * t - (far >> 1));
            int kept = Math.min(far, limit);
            return difference < 0 ? -kept : kept;
        }
    }
}
