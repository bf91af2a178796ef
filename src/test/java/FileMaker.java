import java.io.ByteArrayOutputStream;

/** Makes files: one picture with one item, each part of which can be replaced before it is built. */
final class FileMaker {
    int layout = 0;
    int ten = 0;
    int width = 8;
    int height = 8;
    int soft = 0;
    int q = 0;
    int still = 0;
    int level = 0;
    int strength = 0;
    int item = 7;
    int[] tile = {};
    boolean withExtra = false;

    /** What stands in the place of a part that is made otherwise; null: nothing does. */
    int[] brand = {4, 'f', 'a', 'v'};
    int[] chosen;
    int[] places;
    int[] links;
    int[] props;
    int[] data;
    /** Boxes behind those of m, and bytes behind the boxes of m. */
    int[] more = {};
    /** The pieces in which the data lie in the file, in lengths; the rest is the last one. */
    int[] pieces = {};

    static int[] join(int[]... parts) {
        ByteArrayOutputStream all = new ByteArrayOutputStream();
        for (int[] part : parts) {
            for (int b : part) {
                all.write(b);
            }
        }
        byte[] bytes = all.toByteArray();
        int[] joined = new int[bytes.length];
        for (int i = 0; i < joined.length; i++) {
            joined[i] = bytes[i] & 255;
        }
        return joined;
    }

    static int[] list(int... bytes) {
        return bytes;
    }

    static int[] box(int type, int[]... content) {
        int[] inside = join(content);
        return join(list(inside.length + 2, type), inside);
    }

    /** Bits told as pairs of a number and how many bits it has, the rest of the last byte being fill. */
    static int[] bits(int fill, int... pairs) {
        StringBuilder all = new StringBuilder();
        for (int i = 0; i < pairs.length; i += 2) {
            for (int b = pairs[i + 1] - 1; b >= 0; b--) {
                all.append((pairs[i] >> b) & 1);
            }
        }
        while (all.length() % 8 != 0) {
            all.append(fill);
        }
        int[] bytes = new int[all.length() / 8];
        for (int i = 0; i < bytes.length; i++) {
            bytes[i] = Integer.parseInt(all.substring(8 * i, 8 * i + 8), 2);
        }
        return bytes;
    }

    /** A unit with its size in one byte, or in two if need be. */
    static int[] unit(int type, int[]... content) {
        int[] inside = join(content);
        int head = type * 8 + 2;
        return inside.length < 128
            ? join(list(head, inside.length), inside)
            : join(list(head, 128 + inside.length % 128, inside.length / 128), inside);
    }

    static int[] lastUnit(int type, int[]... content) {
        return join(list(type * 8), join(content));
    }

    int[] sequenceBits() {
        return bits(1, layout, 2, ten, 1, width - 1, 4, height - 1, 4, 0, 2, soft, 1);
    }

    int[] frameBits() {
        return soft == 1
            ? bits(1, 0, 3, q, 6, still, 1, level, 3, strength, 2)
            : bits(1, 0, 3, q, 6, still, 1, level, 3);
    }

    int[] sequence() {
        return unit(1, sequenceBits());
    }

    int[] frame() {
        return unit(6, frameBits(), tile);
    }

    int[] shapeBox() {
        return box('s', list(width, height));
    }

    int[] colourBox() {
        return box('c', list(layout + 4 * ten));
    }

    int[] extraBox() {
        int depth = ten == 1 ? 10 : 8;
        return layout == 0 ? box('x', list(1, depth)) : box('x', list(3, depth, depth, depth));
    }

    /** The whole file; the offsets are known only when the boxes are, so that they are made twice. */
    int[] build() {
        int[] bytes = data != null ? data : join(sequence(), frame());
        int[] front = front(0, bytes.length);
        front = front(front.length + 2, bytes.length);
        return join(front, list(0, 'd'), bytes);
    }

    private int[] front(int start, int count) {
        int[] p = chosen != null ? chosen : box('p', list(item));
        int[] l = places != null ? places : box('l', list(1, item), pairs(start, count));
        int[] r = props != null ? props : withExtra
            ? box('r', shapeBox(), colourBox(), extraBox(), linkBox(1, 2, 131))
            : box('r', shapeBox(), colourBox(), linkBox(129, 2));
        return join(brand, box('m', p, l, r, more));
    }

    int[] linkBox(int... numbers) {
        return links != null ? links : box('a', list(item, numbers.length), numbers);
    }

    private int[] pairs(int start, int count) {
        int[] all = list(pieces.length + 1);
        int from = start;
        int left = count;
        for (int piece : pieces) {
            all = join(all, list(from, piece));
            from += piece;
            left -= piece;
        }
        return join(all, list(from, left));
    }

    static StillPicture load(int[] file) {
        StillPicture x = new StillPicture();
        for (int b : file) {
            if (!x.add(b)) {
                throw new IllegalStateException("the file is too long: " + file.length);
            }
        }
        return x;
    }
}
