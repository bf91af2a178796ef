/** Promise 7, steps 1 to 6: each code, at its edges and in its order. */
public final class CodesTest {
    private static final Check check = new Check();
    private static final int FINE = StillPicture.FINE;
    private static final int BOXES = StillPicture.BOXES;
    private static final int BRAND = StillPicture.BRAND;
    private static final int ABSENT = StillPicture.ABSENT;
    private static final int EXTENT = StillPicture.EXTENT;
    private static final int FEATURE = StillPicture.FEATURE;
    private static final int MISMATCH = StillPicture.MISMATCH;
    private static final int STREAM = StillPicture.STREAM;

    public static void main(String[] args) {
        wholeFile();
        boxesInOrder();
        boxesCounted();
        boxesNested();
        boxesToTheEnd();
        brand();
        boxesOfTheItem();
        entriesOfTheItem();
        extents();
        linksOfTheItem();
        contentOfProperties();
        unitHeads();
        unitSizes();
        unitOrder();
        sequenceBits();
        sequenceAgrees();
        frameBits();
        aFaultLeavesNoPicture();
        anOlderFileLeavesNoBoxes();
        check.end();
    }

    private static int[] list(int... bytes) {
        return bytes;
    }

    private static int[] join(int[]... parts) {
        return FileMaker.join(parts);
    }

    private static int[] box(int type, int[]... content) {
        return FileMaker.box(type, content);
    }

    private static void due(String what, int want, int[] file) {
        check.due(what, want, FileMaker.load(file).decode());
    }

    private static void wholeFile() {
        due("a plain file", FINE, new FileMaker().build());
        FileMaker extra = new FileMaker();
        extra.withExtra = true;
        due("with x", FINE, extra.build());
        extra.layout = 1;
        extra.ten = 1;
        due("three planes of 10 bits, with x", FINE, extra.build());
        due("no file", BRAND, list());
    }

    private static void boxesInOrder() {
        int[] good = new FileMaker().build();
        due("one byte", BOXES, list(0));
        due("one byte of a longer box", BOXES, list(2));
        due("n is 1", BOXES, list(1, 'f', 'v'));
        due("n is 1 behind a box", BOXES, join(list(3, 'f', 'v'), list(1, 'f', 'v')));
        due("a box without content", BRAND, list(2, 'f'));
        due("a box beyond the file", BOXES, list(4, 'f', 'v'));
        due("a byte behind the boxes", BOXES, list(3, 'f', 'v', 0));
        due("n is 255", BOXES, join(list(255, 'f'), new int[100]));
        due("n is all", ABSENT, list(3, 'f', 'v'));
        int[] inside = good.clone();
        inside[6] = 1;
        due("n is 1 inside m", BOXES, inside);
        inside[6] = 200;
        due("a box beyond m", BOXES, inside);
        FileMaker odd = new FileMaker();
        odd.more = list(0);
        due("a byte behind the boxes of m", BOXES, odd.build());
        odd.more = list(9);
        due("a byte of a box of m", BOXES, odd.build());
    }

    private static void boxesCounted() {
        FileMaker many = new FileMaker();
        many.more = new int[14];
        for (int i = 0; i < 7; i++) {
            many.more[2 * i] = 2;
            many.more[2 * i + 1] = 'z';
        }
        due("16 boxes", FINE, many.build());
        many.more = join(many.more, list(2, 'z'));
        due("17 boxes", BOXES, many.build());
        int[] flat = list(3, 'f', 'v');
        for (int i = 0; i < 15; i++) {
            flat = join(flat, list(2, 'z'));
        }
        due("16 boxes side by side", ABSENT, flat);
        due("17 boxes side by side", BOXES, join(flat, list(2, 'z')));
    }

    private static void boxesNested() {
        FileMaker deep = new FileMaker();
        deep.more = box('m', box('r'));
        due("an empty stretch at depth 3", FINE, deep.build());
        deep.more = box('m', box('r', box('r')));
        due("depth 4", FINE, deep.build());
        deep.more = box('m', box('r', box('r', list(2, 'z'))));
        due("depth 5", BOXES, deep.build());
        deep.more = box('m', box('r', box('r', list(7))));
        due("a lone byte at depth 5", BOXES, deep.build());
        deep.more = box('m', box('r', box('z', list(1, 1, 1))));
        due("content of other types is no stretch", FINE, deep.build());
        deep.more = box('r', list(1, 'z'));
        due("content of r is a stretch", BOXES, deep.build());
        deep.more = list();
        int[] behind = join(list(4, 'f', 'v', 'x'), box('r', list(1, 'z')));
        due("content of r in the file is a stretch", BOXES, behind);
    }

    private static void boxesToTheEnd() {
        FileMaker open = new FileMaker();
        open.more = list(0, 'z', 1, 1);
        due("n is 0 inside m", FINE, open.build());
        due("n is 0 for the first box", ABSENT, list(0, 'f', 'a', 'v', 'a'));
        due("n is 0 without content", ABSENT, list(3, 'f', 'v', 0, 'm'));
        due("n is 0 and nothing more", BOXES, list(3, 'f', 'v', 0));
    }

    private static void brand() {
        FileMaker made = new FileMaker();
        made.brand = list(3, 'f', 'v');
        due("v alone", FINE, made.build());
        made.brand = list(5, 'f', 'v', 'a', 'b');
        due("v first", FINE, made.build());
        made.brand = list(5, 'f', 'a', 'b', 'v');
        due("v last", FINE, made.build());
        made.brand = list(5, 'f', 'a', 'b', 'w');
        due("no v", BRAND, made.build());
        made.brand = list(2, 'f');
        due("f without content", BRAND, made.build());
        made.brand = list(3, 'g', 'v');
        due("first box is no f", BRAND, made.build());
        made.brand = list(2, 'z', 3, 'f', 'v');
        due("f is second", BRAND, made.build());
        made.brand = list(2, 'f', 3, 'f', 'v');
        due("v in the second f", BRAND, made.build());
        due("v behind the content of f", BRAND, join(list(3, 'f', 'a', 'v', 'z'), new int[116]));
        due("boxes before brand", BOXES, list(3, 'g', 'v', 1));
    }

    private static void boxesOfTheItem() {
        int[] start = list(3, 'f', 'v');
        int[] p = box('p', list(7));
        int[] l = box('l', list(0));
        int[] r = box('r', box('a'));
        due("no m", ABSENT, join(start, p, l, r));
        due("no p", ABSENT, join(start, box('m', l, r)));
        due("no l", ABSENT, join(start, box('m', p, r)));
        due("no r", ABSENT, join(start, box('m', p, l)));
        due("no a", ABSENT, join(start, box('m', p, l, box('r'))));
        due("a beside r", ABSENT, join(start, box('m', p, l, box('r'), box('a'))));

        FileMaker made = new FileMaker();
        made.chosen = box('p');
        due("p without content", ABSENT, made.build());
        made.chosen = box('p', list(7, 8, 9));
        due("the first byte of p", FINE, made.build());
        made.chosen = box('p', list(8, 7));
        due("the second byte of p", ABSENT, made.build());
        made.chosen = join(box('p', list(7)), box('p', list(9)), box('p'));
        due("the first p", FINE, made.build());
        made.chosen = join(box('p'), box('p', list(7)));
        due("the first p is empty", ABSENT, made.build());
        made.chosen = join(box('l'), box('p', list(7)));
        due("the first l is empty", ABSENT, made.build());
        made.chosen = join(box('r'), box('p', list(7)));
        due("the first r is empty", ABSENT, made.build());
        made.chosen = box('m', box('p', list(7)));
        due("p deeper in", ABSENT, made.build());
        made = new FileMaker();
        made.brand = join(list(3, 'f', 'v'), box('m'));
        due("the first m is empty", ABSENT, made.build());
        made = new FileMaker();
        made.more = join(box('p', list(3)), box('l'), box('r'));
        due("later boxes of the same types", FINE, made.build());
    }

    /** A file in which l has the entries that are given, with the offset of the data put for each 255. */
    private static int[] withPlaces(int... content) {
        FileMaker made = new FileMaker();
        int[] data = join(made.sequence(), made.frame());
        made.data = data;
        made.places = box('l', content);
        int start = made.build().length - data.length;
        int[] filled = content.clone();
        for (int i = 0; i < filled.length; i++) {
            filled[i] = filled[i] == 255 ? start : filled[i];
        }
        made.places = box('l', filled);
        return made.build();
    }

    private static int dataLength() {
        FileMaker made = new FileMaker();
        return join(made.sequence(), made.frame()).length;
    }

    private static void entriesOfTheItem() {
        int n = dataLength();
        due("l is empty", ABSENT, withPlaces());
        due("no entries", ABSENT, withPlaces(0, 7, 1, 255, n));
        due("entry is missing", ABSENT, withPlaces(1));
        due("number of pairs is missing", ABSENT, withPlaces(1, 7));
        due("offset is missing", ABSENT, withPlaces(1, 7, 1));
        due("length is missing", ABSENT, withPlaces(1, 7, 1, 255));
        due("one entry", FINE, withPlaces(1, 7, 1, 255, n));
        due("bytes behind the entries", FINE, withPlaces(1, 7, 1, 255, n, 1, 2, 3));
        due("more entries promised than there are", FINE, withPlaces(9, 7, 1, 255, n));
        due("second entry", FINE, withPlaces(2, 8, 2, 1, 1, 2, 2, 7, 1, 255, n));
        due("second entry is not counted", ABSENT, withPlaces(1, 8, 2, 1, 1, 2, 2, 7, 1, 255, n));
        due("the first of two entries", FINE, withPlaces(2, 7, 1, 255, n, 7, 1, 0, 1));
        due("the first of two entries is wrong", STREAM, withPlaces(2, 7, 1, 0, 0, 7, 1, 255, n));
        due("pairs of others are missing", ABSENT, withPlaces(2, 8, 2, 1, 1, 2));
        due("extents of others are free", FINE, withPlaces(2, 8, 1, 250, 250, 7, 1, 255, n));
        due("two pairs", FINE, withPlaces(1, 7, 2, 255, n, 0, 0));
        due("second pair is missing", ABSENT, withPlaces(1, 7, 2, 255, n));
        due("half of the second pair is missing", ABSENT, withPlaces(1, 7, 2, 255, n, 0));
        due("no pairs", STREAM, withPlaces(1, 7, 0));
    }

    private static void extents() {
        int n = dataLength();
        int all = withPlaces(1, 7, 2, 255, n, 0, 0).length;
        due("an extent to the end", FINE, withPlaces(1, 7, 2, 255, n, 0, all));
        due("an extent beyond the end", EXTENT, withPlaces(1, 7, 2, 255, n, 0, all + 1));
        due("an empty extent at the end", FINE, withPlaces(1, 7, 2, 255, n, all, 0));
        due("an empty extent behind the end", EXTENT, withPlaces(1, 7, 2, 255, n, all + 1, 0));
        due("extent before what is missing", EXTENT, withPlaces(1, 7, 3, 255, n, 1, all));
        due("extent before a property", EXTENT, withPlaces(1, 7, 1, 250, 250));
        int many = (200 - n) / 20;
        int rest = 200 - n - 20 * many;
        int[] pairs = list(1, 7, many + 2, 255, n);
        for (int i = 0; i < many; i++) {
            pairs = join(pairs, list(3, 20));
        }
        due("200 bytes of data", FINE, withPlaces(join(pairs, list(0, rest))));
        due("201 bytes of data", EXTENT, withPlaces(join(pairs, list(0, rest + 1))));
        FileMaker made = new FileMaker();
        made.pieces = list(1, 0, 2, 3);
        due("data in pieces", FINE, made.build());
    }

    private static int[] withProps(int[]... content) {
        FileMaker made = new FileMaker();
        made.props = box('r', content);
        return made.build();
    }

    private static void linksOfTheItem() {
        int[] s = box('s', list(8, 8));
        int[] c = box('c', list(0));
        int[] z = box('z');
        due("s and c", FINE, withProps(s, c, box('a', list(7, 2, 1, 2))));
        due("a first", FINE, withProps(box('a', list(7, 2, 1, 2)), s, c));
        due("a between", FINE, withProps(s, box('a', list(7, 2, 1, 2)), c));
        due("a second a is no property", FINE, withProps(s, box('a', list(7, 2, 1, 2)), box('a', list(9)), c));
        due("the first a is empty", ABSENT, withProps(s, c, box('a'), box('a', list(7, 2, 1, 2))));
        due("all needed", FINE, withProps(s, c, box('a', list(7, 2, 129, 130))));
        due("in two entries", FINE, withProps(s, c, box('a', list(7, 1, 2, 7, 1, 1))));
        due("others between", FINE, withProps(s, c, box('a', list(7, 1, 2, 9, 2, 3, 255, 7, 1, 1))));
        due("only for another", ABSENT, withProps(s, c, box('a', list(9, 2, 1, 2))));
        due("0 is none", FINE, withProps(s, c, box('a', list(7, 4, 0, 1, 128, 2))));
        due("no property 3", ABSENT, withProps(s, c, box('a', list(7, 3, 1, 2, 3))));
        due("no property 3, needed", ABSENT, withProps(s, c, box('a', list(7, 3, 1, 2, 131))));
        due("no property 127", ABSENT, withProps(s, c, box('a', list(7, 3, 1, 2, 127))));
        due("another type", FINE, withProps(s, c, z, box('a', list(7, 3, 3, 1, 2))));
        due("another type, needed", FEATURE, withProps(s, c, z, box('a', list(7, 3, 131, 1, 2))));
        due("another type, needed by another", FINE, withProps(s, c, z, box('a', list(9, 1, 131, 7, 2, 1, 2))));
        due("a stretch is a property", FEATURE, withProps(s, c, box('r'), box('a', list(7, 3, 131, 1, 2))));
        due("feature before what is missing", FEATURE, withProps(s, c, z, box('a', list(7, 4, 131, 1))));
        due("missing before feature", ABSENT, withProps(s, c, z, box('a', list(7, 3, 4, 131, 1))));
        due("feature before there is no s", FEATURE, withProps(s, c, z, box('a', list(7, 1, 131))));
        due("number is missing", ABSENT, withProps(s, c, box('a', list(7, 2, 1, 2, 9))));
        due("a byte is missing", ABSENT, withProps(s, c, box('a', list(7, 3, 1, 2))));
        due("a byte of another is missing", ABSENT, withProps(s, c, box('a', list(7, 2, 1, 2, 9, 1))));
        due("an entry without bytes", FINE, withProps(s, c, box('a', list(7, 2, 1, 2, 7, 0))));
        due("a is empty", ABSENT, withProps(s, c, box('a')));
        due("no s", ABSENT, withProps(s, c, box('a', list(7, 1, 2))));
        due("no c", ABSENT, withProps(s, c, box('a', list(7, 1, 1))));
        due("s in another stretch", ABSENT, withProps(c, box('r', s), box('a', list(7, 2, 1, 2))));
    }

    private static void contentOfProperties() {
        int[] s = box('s', list(8, 8));
        int[] c = box('c', list(0));
        int[] a = box('a', list(7, 3, 1, 2, 3));
        due("s with more", FINE, withProps(box('s', list(8, 8, 1)), c, box('a', list(7, 2, 1, 2))));
        due("s with one byte", ABSENT, withProps(box('s', list(8)), c, box('a', list(7, 2, 1, 2))));
        due("s without bytes", ABSENT, withProps(box('s'), c, box('a', list(7, 2, 1, 2))));
        due("c with more", FINE, withProps(s, box('c', list(0, 9)), box('a', list(7, 2, 1, 2))));
        due("c without bytes", ABSENT, withProps(s, box('c'), box('a', list(7, 2, 1, 2))));
        due("x", FINE, withProps(s, c, box('x', list(1, 8)), a));
        due("x with more", FINE, withProps(s, c, box('x', list(1, 8, 9)), a));
        due("x without bytes", ABSENT, withProps(s, c, box('x'), a));
        due("x too short", ABSENT, withProps(s, c, box('x', list(2, 8)), a));
        due("x of none", MISMATCH, withProps(s, c, box('x', list(0)), a));
        due("x that is not the item's", FINE, withProps(s, c, box('x'), box('a', list(7, 2, 1, 2))));
        int[] second = box('s', list(9, 9));
        due("the first s", FINE, withProps(s, c, second, a));
        due("the first s by its byte", MISMATCH, withProps(s, c, second, box('a', list(7, 3, 3, 2, 1))));
        due("the first c by its byte", MISMATCH, withProps(s, c, box('c', list(1)), box('a', list(7, 3, 1, 3, 2))));
        due("the first c", FINE, withProps(s, c, box('c', list(1)), a));
        due("the first s is too short", ABSENT, withProps(box('s', list(8)), c, s, a));
        int[] both = box('a', list(7, 4, 1, 2, 3, 4));
        due("the first x", FINE, withProps(s, c, box('x', list(1, 8)), box('x', list(1, 9)), both));
        due("the second x", MISMATCH, withProps(s, c, box('x', list(1, 9)), box('x', list(1, 8)), both));
    }

    private static void dueData(String what, int want, int[]... data) {
        FileMaker made = new FileMaker();
        made.data = join(data);
        due(what, want, made.build());
    }

    private static void unitHeads() {
        int[] sequence = new FileMaker().sequence();
        int[] frame = new FileMaker().frame();
        dueData("no data", STREAM);
        dueData("sequence and frame", FINE, sequence, frame);
        dueData("no frame", STREAM, sequence);
        dueData("head of 128", STREAM, sequence, list(128), frame);
        dueData("head of 132", STREAM, sequence, list(132), frame);
        dueData("feature bit", FEATURE, sequence, list(2 * 8 + 4 + 2, 0), frame);
        dueData("feature bit before the size", FEATURE, sequence, list(2 * 8 + 4 + 2));
        dueData("the lowest bit is free", FINE, list(sequence[0] + 1), sequence(sequence), frame);
        for (int type = 0; type < 16; type++) {
            if (type != 1 && type != 6) {
                int[] other = FileMaker.unit(type, list(255, 255));
                dueData("unit of type " + type, FINE, other, sequence, other, frame);
            }
        }
        dueData("another unit to the end", STREAM, sequence, list(2 * 8), frame);
        dueData("frame to the end", FINE, sequence, FileMaker.lastUnit(6, new FileMaker().frameBits()));
        dueData("sequence to the end", STREAM, list(8), new FileMaker().sequenceBits(), frame);
    }

    private static int[] sequence(int[] unit) {
        int[] rest = new int[unit.length - 1];
        System.arraycopy(unit, 1, rest, 0, rest.length);
        return rest;
    }

    private static void unitSizes() {
        FileMaker plain = new FileMaker();
        int[] bits = plain.frameBits();
        int[] sequence = plain.sequence();
        dueData("size in one byte", FINE, sequence, list(50, 2), bits);
        dueData("size in two bytes", FINE, sequence, list(50, 130, 0), bits);
        dueData("size in three bytes", FINE, sequence, list(50, 130, 128, 0), bits);
        dueData("size in four bytes", STREAM, sequence, list(50, 130, 128, 128, 0), bits);
        dueData("size is missing", STREAM, sequence, list(50));
        dueData("second byte of the size is missing", STREAM, sequence, list(50, 130));
        dueData("third byte of the size is missing", STREAM, sequence, list(50, 130, 128));
        dueData("size of one too much", STREAM, sequence, list(50, 3), bits);
        dueData("size of 128 too much", STREAM, sequence, list(50, 130, 1), bits);
        dueData("size of 16384 too much", STREAM, sequence, list(50, 130, 128, 1), bits);
        dueData("a great size", STREAM, sequence, list(50, 255, 255, 127), bits);
        dueData("a unit of 130", FINE, FileMaker.unit(2, new int[130]), sequence, plain.frame());
        dueData("an empty unit", FINE, list(18, 0), sequence, plain.frame());
        dueData("another unit is too long", STREAM, sequence, list(18, 20), bits);
        dueData("nothing behind the frame is looked at", FINE, sequence, plain.frame(), list(255, 4, 1));
    }

    private static void unitOrder() {
        FileMaker plain = new FileMaker();
        int[] sequence = plain.sequence();
        int[] frame = plain.frame();
        dueData("frame without a sequence", STREAM, frame);
        dueData("frame before the sequence", STREAM, frame, sequence);
        dueData("a frame of other kind before the sequence", STREAM, FileMaker.unit(6, list(255, 255)), sequence);
        dueData("two sequences", FINE, sequence, sequence, frame);
        FileMaker wide = new FileMaker();
        wide.width = 9;
        dueData("a second sequence of other width", MISMATCH, sequence, wide.sequence(), frame);
        dueData("a second sequence of other layout", FEATURE, sequence, FileMaker.unit(1, list(128, 0)), frame);
        dueData("a second sequence is too short", STREAM, sequence, FileMaker.unit(1, list(0)), frame);
        FileMaker soft = new FileMaker();
        soft.soft = 1;
        dueData("a soft one, then a hard one", FINE, soft.sequence(), sequence, frame);
        dueData("a sequence behind the frame", FINE, sequence, frame, wide.sequence());
    }

    private static void dueSequence(String what, int want, int[] content) {
        dueData(what, want, FileMaker.unit(1, content), new FileMaker().frame());
    }

    private static void sequenceBits() {
        dueSequence("sequence", FINE, FileMaker.bits(0, 0, 2, 0, 1, 7, 4, 7, 4, 0, 2, 0, 1));
        dueSequence("sequence with more", FINE, FileMaker.bits(1, 0, 2, 0, 1, 7, 4, 7, 4, 0, 2, 0, 1, 255, 8));
        dueSequence("no bits", STREAM, list());
        dueSequence("one byte", STREAM, list(0));
        dueSequence("layout 2", FEATURE, list(0x80, 0));
        dueSequence("layout 3", FEATURE, list(0xc0, 0));
        dueSequence("layout 2 in one byte", FEATURE, list(0x80));
        dueSequence("first bit that must be 0", FEATURE, FileMaker.bits(0, 0, 2, 0, 1, 7, 4, 7, 4, 2, 2, 0, 1));
        dueSequence("second bit that must be 0", FEATURE, FileMaker.bits(0, 0, 2, 0, 1, 7, 4, 7, 4, 1, 2, 0, 1));
        dueSequence("feature before mismatch", FEATURE, FileMaker.bits(0, 0, 2, 0, 1, 8, 4, 7, 4, 1, 2, 0, 1));
        dueSequence("soft", FINE, FileMaker.bits(0, 0, 2, 0, 1, 7, 4, 7, 4, 0, 2, 1, 1));
    }

    private static void sequenceAgrees() {
        dueSequence("other width", MISMATCH, FileMaker.bits(0, 0, 2, 0, 1, 8, 4, 7, 4, 0, 2, 0, 1));
        dueSequence("other height", MISMATCH, FileMaker.bits(0, 0, 2, 0, 1, 7, 4, 6, 4, 0, 2, 0, 1));
        dueSequence("other depth", MISMATCH, FileMaker.bits(0, 0, 2, 1, 1, 7, 4, 7, 4, 0, 2, 0, 1));
        dueSequence("other layout", MISMATCH, FileMaker.bits(0, 1, 2, 0, 1, 7, 4, 7, 4, 0, 2, 0, 1));
        for (int layout = 0; layout < 2; layout++) {
            for (int ten = 0; ten < 2; ten++) {
                for (int c = 0; c < 7; c++) {
                    FileMaker made = new FileMaker();
                    made.layout = layout;
                    made.ten = ten;
                    made.width = 16;
                    made.height = 1;
                    made.props = box('r', made.shapeBox(), box('c', list(c)), box('a', list(7, 2, 1, 2)));
                    due("c " + c + " for " + layout + ", " + ten,
                        c == layout + 4 * ten ? FINE : MISMATCH, made.build());
                }
            }
        }
        dueExtra("x of three", FINE, 3, 10, 10, 10);
        dueExtra("x of three and more", FINE, 3, 10, 10, 10, 8);
        dueExtra("x of four", MISMATCH, 4, 10, 10, 10, 10);
        dueExtra("x of one", MISMATCH, 1, 10);
        dueExtra("x with other depth first", MISMATCH, 3, 8, 10, 10);
        dueExtra("x with other depth second", MISMATCH, 3, 10, 8, 10);
        dueExtra("x with other depth third", MISMATCH, 3, 10, 10, 8);
        dueExtra("x too short for three", ABSENT, 3, 10, 10);
        FileMaker zero = new FileMaker();
        zero.props = box('r', box('s', list(0, 8)), zero.colourBox(), box('a', list(7, 2, 1, 2)));
        due("s of width 0", MISMATCH, zero.build());
        zero.props = box('r', box('s', list(8, 24)), zero.colourBox(), box('a', list(7, 2, 1, 2)));
        due("s of height 24", MISMATCH, zero.build());
        dueData("mismatch before what comes behind it", MISMATCH,
            FileMaker.unit(1, FileMaker.bits(0, 0, 2, 0, 1, 8, 4, 7, 4, 0, 2, 0, 1)), list(255));
    }

    private static void dueExtra(String what, int want, int... content) {
        FileMaker made = new FileMaker();
        made.layout = 1;
        made.ten = 1;
        made.props = box('r', made.shapeBox(), made.colourBox(), box('x', content), box('a', list(7, 3, 1, 2, 3)));
        due(what, want, made.build());
    }

    private static void dueFrame(String what, int want, int soft, int... content) {
        FileMaker made = new FileMaker();
        made.soft = soft;
        dueData(what, want, made.sequence(), FileMaker.unit(6, content));
    }

    private static void frameBits() {
        dueFrame("frame of two bytes", FINE, 0, 0, 0);
        dueFrame("soft frame of two bytes", FINE, 1, 0, 0);
        dueFrame("no bits", STREAM, 0);
        dueFrame("one byte", STREAM, 0, 0);
        dueFrame("first bit", FEATURE, 0, 0x80, 0);
        dueFrame("second bit", FEATURE, 0, 0x40, 0);
        dueFrame("third bit", FEATURE, 0, 0x20, 0);
        dueFrame("first bit in one byte", FEATURE, 0, 0x80);
        dueFrame("third bit in one byte", FEATURE, 0, 0x20);
        dueFrame("all other bits", FINE, 0, 0x1f, 0xff);
        dueFrame("all other bits, soft", FINE, 1, 0x1f, 0xff);
    }

    private static void aFaultLeavesNoPicture() {
        int[] good = new FileMaker().build();
        StillPicture x = FileMaker.load(good);
        check.due("good", FINE, x.decode());
        check.due("there is a picture", 8, x.width());
        int old = x.patch(0, 1);
        check.due("patching leaves the picture", 8, x.width());
        check.due("bad", BOXES, x.decode());
        check.due("bad: planes", 0, x.planes());
        check.due("bad: width", 0, x.width());
        check.due("bad: height", 0, x.height());
        check.due("bad: depth", 0, x.depth());
        check.due("bad: sample", -1, x.sample(0, 0, 0));
        check.due("bad: block", -1, x.block(0, 0, 0));
        check.due("bad: blocks", 0, x.blocks());
        check.due("bad: symbols", 0, x.symbols());
        check.due("bad: taken", 0, x.taken());
        check.due("bad: table", -1, x.table(0, 0));
        check.due("mended: old byte", 1, x.patch(0, old));
        check.due("mending is no decoding", 0, x.width());
        check.due("mended", FINE, x.decode());
        check.due("mended: width", 8, x.width());
        x.clear();
        check.due("clearing leaves the picture", 8, x.height());
        check.due("cleared", BRAND, x.decode());
        check.due("cleared: height", 0, x.height());
    }

    private static void dueNext(String what, int want, StillPicture x, int[] file) {
        x.clear();
        for (int b : file) {
            x.add(b);
        }
        check.due(what, want, x.decode());
    }

    /** The same object decodes one file after the other; the boxes of the older one are no more. */
    private static void anOlderFileLeavesNoBoxes() {
        int[] plain = new FileMaker().build();
        int[] missing = withProps(box('s', list(8, 8)), box('c', list(0)), box('a', list(7, 3, 1, 2, 3)));
        StillPicture x = new StillPicture();
        FileMaker made = new FileMaker();
        made.more = list();
        for (int more = 1; more <= 7; more++) {
            made.more = join(made.more, list(2, 'z'));
            dueNext(more + " boxes more", FINE, x, made.build());
            dueNext("no property 3 behind " + more + " boxes more", ABSENT, x, missing);
            dueNext("plain behind " + more + " boxes more", FINE, x, plain);
        }
        int[] inside = join(box('s', list(8, 8)), box('c', list(0)), box('a', list(7, 2, 1, 2)));
        for (int more = 1; more <= 6; more++) {
            inside = join(inside, list(2, 'm'));
            dueNext(more + " stretches more", FINE, x, withProps(inside));
            dueNext("no property 3 behind " + more + " stretches more", ABSENT, x, missing);
            dueNext("plain behind " + more + " stretches more", FINE, x, plain);
        }
        dueNext("a stretch with a box", FINE, x, withProps(box('s', list(8, 8)), box('c', list(0)),
            box('a', list(7, 2, 1, 2)), box('m', box('z', new int[9]))));
        dueNext("plain behind a stretch with a box", FINE, x, plain);
        // Only f is left: what the older file had behind it must not be found.
        dueNext("f alone", ABSENT, x, list(3, 'f', 'v'));
        dueNext("nothing", BRAND, x, list());
    }
}
