/** Promise 7, step 6: each sentence about units, sequence and frame, at its edges. */
public final class StreamTest {
    private static final Check check = new Check();
    private static final int FINE = StillPicture.FINE;
    private static final int FEATURE = StillPicture.FEATURE;
    private static final int MISMATCH = StillPicture.MISMATCH;
    private static final int STREAM = StillPicture.STREAM;

    public static void main(String[] args) {
        noUnit();
        headOfAUnit();
        sizeInOneByte();
        sizeInTwoBytes();
        sizeInThreeBytes();
        sizeIsNotThere();
        sizeOfWhatIsLeft();
        unitToTheEnd();
        unitsOfOtherTypes();
        frameNeedsASequence();
        nothingBehindTheFrame();
        bitsOfASequence();
        layouts();
        bitsThatMustBeZero();
        widthAndHeight();
        propertyC();
        propertyX();
        laterSequences();
        bitsOfAFrame();
        featuresOfAFrame();
        quality();
        strengthOnlyIfSoft();
        restOfTheLastByte();
        tileOfTheUnit();
        unitsInOrderBehindAFault();
        check.end();
    }

    private static int[] list(int... bytes) {
        return bytes;
    }

    private static int[] join(int[]... parts) {
        return FileMaker.join(parts);
    }

    private static int[] box(int type, int[]... content) {
        return FileMaker.box(type, content);
    }

    private static int[] sequence() {
        return new FileMaker().sequence();
    }

    private static int[] frame() {
        return new FileMaker().frame();
    }

    /** The data of a file whose properties tell of one plane of 8 times 8 samples of 8 bits. */
    private static void due(String what, int want, int[]... data) {
        FileMaker made = new FileMaker();
        made.data = join(data);
        check.due(what, want, FileMaker.load(made.build()).decode());
    }

    /** "a byte h: STREAM (7) if there is none" */
    private static void noUnit() {
        due("no data", STREAM);
        due("a sequence alone", STREAM, sequence());
        due("two sequences alone", STREAM, sequence(), sequence());
        due("another unit alone", STREAM, list(18, 0));
        due("sequence and frame", FINE, sequence(), frame());
    }

    /** "STREAM if .. it is 128 or more; FEATURE if h & 4 is not 0. Its type is h >> 3." */
    private static void headOfAUnit() {
        for (int head = 0; head < 256; head++) {
            int[] content = head >> 3 == 1 ? new FileMaker().sequenceBits()
                : head >> 3 == 6 ? new FileMaker().frameBits() : list(255, 255);
            boolean isFrame = head >> 3 == 6;
            int code = head >= 128 ? STREAM : (head & 4) != 0 ? FEATURE : FINE;
            if ((head & 2) != 0) {
                due("head " + head + " with a size", code, sequence(), list(head, 2), content, frame());
                due("head " + head + " without the size", code != FINE ? code : STREAM, sequence(), list(head));
            } else {
                due("head " + head + " to the end", code != FINE || isFrame ? code : STREAM, sequence(), list(head), content);
            }
            due("head " + head + " alone", code != FINE ? code : STREAM, list(head));
        }
    }

    private static void sizeInOneByte() {
        int[] bits = new FileMaker().frameBits();
        due("size 2", FINE, sequence(), list(50, 2), bits);
        due("size 0 of another unit", FINE, list(18, 0), sequence(), frame());
        due("size 1 of another unit", FINE, list(18, 1, 255), sequence(), frame());
        due("size 127 of another unit", FINE, list(18, 127), new int[127], sequence(), frame());
        due("size 127, one byte less", STREAM, list(18, 127), new int[126]);
    }

    /** "7 bits each, the lowest first, and all but the last have 128 added" */
    private static void sizeInTwoBytes() {
        int[] bits = new FileMaker().frameBits();
        due("size 2 in two bytes", FINE, sequence(), list(50, 130, 0), bits);
        due("size 0 in two bytes", FINE, list(18, 128, 0), sequence(), frame());
        due("size 128", FINE, list(18, 128, 1), new int[128], sequence(), frame());
        due("size 129", FINE, list(18, 129, 1), new int[129], sequence(), frame());
        due("size 130, highest first", STREAM, sequence(), list(50, 130, 1), bits);
        due("size 127 in two bytes", FINE, list(18, 255, 0), new int[127], sequence(), frame());
    }

    /** "in at most three bytes"; "STREAM if .. the third has 128 added" */
    private static void sizeInThreeBytes() {
        int[] bits = new FileMaker().frameBits();
        due("size 2 in three bytes", FINE, sequence(), list(50, 130, 128, 0), bits);
        due("size 0 in three bytes", FINE, list(18, 128, 128, 0), sequence(), frame());
        due("size 130 in three bytes", FINE, list(18, 130, 129, 0), new int[130], sequence(), frame());
        due("size 16386", STREAM, sequence(), list(50, 130, 128, 1), bits);
        due("the greatest size", STREAM, sequence(), list(50, 255, 255, 127), bits);
        due("size 2 in four bytes", STREAM, sequence(), list(50, 130, 128, 128, 0), bits);
        due("third byte 128", STREAM, sequence(), list(50, 130, 128, 128), bits);
        due("third byte 255", STREAM, sequence(), list(50, 130, 128, 255), bits);
        due("size 0, third byte 128", STREAM, list(18, 128, 128, 128), sequence(), frame());
        // However many of the bytes behind it were taken for the unit, what follows would be in order.
        for (int more = 0; more < 130; more++) {
            due("third byte 128, then " + more, STREAM, list(18, 128 + more % 128, 128 + more / 128, 128), new int[more], sequence(), frame());
            due("no third byte, " + more, FINE, list(18, 128 + more % 128, more / 128), new int[more], sequence(), frame());
        }
        for (int more = 0; more < 30; more++) {
            due("third byte 129, then " + more, STREAM, list(18, 129, 128, 129), new int[more], sequence(), frame());
        }
    }

    /** "STREAM if a byte is not there" */
    private static void sizeIsNotThere() {
        due("no size", STREAM, sequence(), list(50));
        due("no second byte of the size", STREAM, sequence(), list(50, 128));
        due("no third byte of the size", STREAM, sequence(), list(50, 128, 128));
        due("no size of another unit", STREAM, list(18));
        due("no second byte of another unit's size", STREAM, list(18, 130));
        due("feature before the size", FEATURE, sequence(), list(54));
    }

    /** "or the size is more than there are bytes left" */
    private static void sizeOfWhatIsLeft() {
        int[] bits = new FileMaker().frameBits();
        for (int size = 0; size < 128; size++) {
            due("frame of 2 bytes with size " + size, size == 2 ? FINE : STREAM, sequence(), list(50, size), bits);
        }
        for (int more = 0; more < 60; more++) {
            int[] rest = new int[more];
            due("frame of all that is left, " + more, FINE, sequence(), list(50, 2 + more), bits, rest);
            due("frame of one more, " + more, STREAM, sequence(), list(50, 3 + more), bits, rest);
            due("another unit of all that is left, " + more, STREAM, sequence(), list(18, more), rest);
            due("another unit of one more, " + more, STREAM, sequence(), list(18, more + 1), rest);
        }
        due("another unit of one more than there is, no frame", STREAM, list(18, 8), new int[7]);
    }

    /** "Otherwise the rest of the data is the unit." */
    private static void unitToTheEnd() {
        due("frame to the end", FINE, sequence(), FileMaker.lastUnit(6, new FileMaker().frameBits()));
        due("another unit to the end", STREAM, sequence(), list(16), frame());
        due("an empty unit to the end", STREAM, sequence(), list(16));
        due("an empty frame to the end", STREAM, sequence(), list(48));
        due("a sequence to the end", STREAM, list(8), new FileMaker().sequenceBits(), frame());
        due("an empty sequence to the end", STREAM, list(8));
    }

    /** "others are passed over" */
    private static void unitsOfOtherTypes() {
        for (int type = 0; type < 16; type++) {
            if (type != 1 && type != 6) {
                int[] other = FileMaker.unit(type, list(255, 255));
                due("unit of type " + type, FINE, other, sequence(), other, frame());
                due("units of type " + type + " for a sequence", STREAM, FileMaker.unit(type, new FileMaker().sequenceBits()), frame());
            }
        }
        int[] many = {};
        for (int i = 0; i < 70; i++) {
            many = join(many, list(18, 0));
        }
        due("70 units before the frame", FINE, many, sequence(), frame());
    }

    /** "type 6 the FRAME (STREAM if no sequence was before it)" */
    private static void frameNeedsASequence() {
        due("frame alone", STREAM, frame());
        due("frame before the sequence", STREAM, frame(), sequence());
        due("a feature in a frame before the sequence", STREAM, FileMaker.unit(6, list(255, 255)), sequence());
        due("frame behind a sequence and another unit", FINE, sequence(), list(18, 0), frame());
        // The sequence of the last decoding is none of this one.
        FileMaker made = new FileMaker();
        StillPicture x = FileMaker.load(made.build());
        check.due("with a sequence", FINE, x.decode());
        FileMaker without = new FileMaker();
        without.data = frame();
        x.clear();
        for (int b : without.build()) {
            x.add(b);
        }
        check.due("without a sequence, behind a file with one", STREAM, x.decode());
    }

    /** "after which nothing is looked at" */
    private static void nothingBehindTheFrame() {
        due("a head of 255 behind the frame", FINE, sequence(), frame(), list(255));
        due("a feature behind the frame", FINE, sequence(), frame(), list(4));
        due("a wrong size behind the frame", FINE, sequence(), frame(), list(18, 99));
        due("a second frame", FINE, sequence(), frame(), FileMaker.unit(6, list(255, 255)));
        due("a wrong sequence behind the frame", FINE, sequence(), frame(), FileMaker.unit(1, list(255, 255)));
    }

    private static void dueSequence(String what, int want, int... content) {
        due(what, want, FileMaker.unit(1, content), frame());
    }

    /** "STREAM if a bit to be read is not there": a sequence has 14 bits. */
    private static void bitsOfASequence() {
        int[] bits = FileMaker.bits(0, 0, 2, 0, 1, 7, 4, 7, 4, 0, 2, 0, 1);
        dueSequence("no byte", STREAM);
        dueSequence("one byte", STREAM, bits[0]);
        dueSequence("one byte of ones and zeros", STREAM, 0x3f);
        for (int rest = 0; rest < 4; rest++) {
            dueSequence("two bytes, last bits " + rest, FINE, bits[0], bits[1] + rest);
        }
        dueSequence("three bytes", FINE, bits[0], bits[1], 255);
        dueSequence("other width, in one byte", STREAM, 0x10);
        dueSequence("other width, in two bytes", MISMATCH, 0x10, bits[1]);
    }

    /** "2 bits LAYOUT (0: one plane, 1: three planes, else FEATURE)" */
    private static void layouts() {
        for (int layout = 0; layout < 4; layout++) {
            FileMaker made = new FileMaker();
            made.layout = layout;
            StillPicture x = FileMaker.load(made.build());
            check.due("layout " + layout, layout < 2 ? FINE : FEATURE, x.decode());
            check.due("planes of layout " + layout, layout == 0 ? 1 : layout == 1 ? 3 : 0, x.planes());
        }
        dueSequence("layout 2 in one byte", FEATURE, 0x80);
        dueSequence("layout 3 in one byte", FEATURE, 0xc0);
        dueSequence("layout 1 in one byte", STREAM, 0x40);
        dueSequence("layout 2 of other width", FEATURE, 0x90, 0);
    }

    /** "two bits, FEATURE if one is 1" */
    private static void bitsThatMustBeZero() {
        for (int two = 0; two < 4; two++) {
            int want = two == 0 ? FINE : FEATURE;
            dueSequence("two bits " + two, want, FileMaker.bits(0, 0, 2, 0, 1, 7, 4, 7, 4, two, 2, 0, 1));
            dueSequence("two bits " + two + ", soft", want, FileMaker.bits(0, 0, 2, 0, 1, 7, 4, 7, 4, two, 2, 1, 1));
            dueSequence("two bits " + two + ", other width", two == 0 ? MISMATCH : FEATURE,
                FileMaker.bits(0, 0, 2, 0, 1, 8, 4, 7, 4, two, 2, 0, 1));
        }
    }

    /** "4 bits width - 1; 4 bits height - 1"; "MISMATCH (6) unless width and height are those of s" */
    private static void widthAndHeight() {
        for (int width = 1; width <= 16; width++) {
            for (int height = 1; height <= 16; height++) {
                FileMaker made = new FileMaker();
                made.width = width;
                made.height = height;
                StillPicture x = FileMaker.load(made.build());
                String what = width + " times " + height;
                check.due(what, FINE, x.decode());
                check.due(what + ": width", width, x.width());
                check.due(what + ": height", height, x.height());
                check.due(what + ": last sample", true, x.sample(0, width - 1, height - 1) >= 0);
                check.due(what + ": no sample behind it", -1, x.sample(0, width, height - 1));
                check.due(what + ": no sample below it", -1, x.sample(0, width - 1, height));
            }
        }
        for (int told = 0; told < 256; told++) {
            dueShape("s of width " + told, told == 8 ? FINE : MISMATCH, told, 8, 8, 8);
            dueShape("s of height " + told, told == 8 ? FINE : MISMATCH, 8, told, 8, 8);
        }
        dueShape("s of width 17", MISMATCH, 17, 8, 1, 8);
        dueShape("s of height 17", MISMATCH, 8, 17, 8, 1);
        dueShape("s of width 0", MISMATCH, 0, 8, 16, 8);
        dueShape("s turned round", MISMATCH, 5, 9, 9, 5);
    }

    private static void dueShape(String what, int want, int toldWidth, int toldHeight, int width, int height) {
        FileMaker made = new FileMaker();
        made.width = width;
        made.height = height;
        made.props = box('r', box('s', list(toldWidth, toldHeight)), made.colourBox(), box('a', list(7, 2, 1, 2)));
        check.due(what, want, FileMaker.load(made.build()).decode());
    }

    /** "the first byte of c is layout + 4 * TEN" */
    private static void propertyC() {
        for (int layout = 0; layout < 2; layout++) {
            for (int ten = 0; ten < 2; ten++) {
                for (int c = 0; c < 256; c++) {
                    FileMaker made = new FileMaker();
                    made.layout = layout;
                    made.ten = ten;
                    made.props = box('r', made.shapeBox(), box('c', list(c)), box('a', list(7, 2, 1, 2)));
                    StillPicture x = FileMaker.load(made.build());
                    boolean agrees = c == layout + 4 * ten;
                    String what = "c " + c + " for " + layout + ", " + ten;
                    check.due(what, agrees ? FINE : MISMATCH, x.decode());
                    check.due(what + ": depth", !agrees ? 0 : ten == 1 ? 10 : 8, x.depth());
                }
            }
        }
    }

    /** "x, if there is one, has as its first byte the number of planes and then that many bytes that are all the depth" */
    private static void propertyX() {
        for (int depth = 0; depth < 256; depth++) {
            dueExtra("one plane of 8 bits, x of " + depth, depth == 8 ? FINE : MISMATCH, 0, 0, 1, depth);
            dueExtra("one plane of 10 bits, x of " + depth, depth == 10 ? FINE : MISMATCH, 0, 1, 1, depth);
        }
        dueExtra("none for one plane", MISMATCH, 0, 0, 0);
        dueExtra("two for one plane", MISMATCH, 0, 0, 2, 8, 8);
        dueExtra("three for one plane", MISMATCH, 0, 0, 3, 8, 8, 8);
        dueExtra("one for one plane, and more", FINE, 0, 0, 1, 8, 9);
        dueExtra("three for three", FINE, 1, 1, 3, 10, 10, 10);
        dueExtra("three for three of 8 bits", FINE, 1, 0, 3, 8, 8, 8);
        dueExtra("three for three, and more", FINE, 1, 1, 3, 10, 10, 10, 8);
        dueExtra("one for three", MISMATCH, 1, 1, 1, 10);
        dueExtra("two for three", MISMATCH, 1, 1, 2, 10, 10);
        dueExtra("four for three", MISMATCH, 1, 1, 4, 10, 10, 10, 10);
        dueExtra("other depth first", MISMATCH, 1, 1, 3, 8, 10, 10);
        dueExtra("other depth second", MISMATCH, 1, 1, 3, 10, 8, 10);
        dueExtra("other depth third", MISMATCH, 1, 1, 3, 10, 10, 8);
        dueExtra("other depth in all", MISMATCH, 1, 0, 3, 10, 10, 10);
    }

    private static void dueExtra(String what, int want, int layout, int ten, int... content) {
        FileMaker made = new FileMaker();
        made.layout = layout;
        made.ten = ten;
        made.props = box('r', made.shapeBox(), made.colourBox(), box('x', content), box('a', list(7, 3, 1, 2, 3)));
        check.due(what, want, FileMaker.load(made.build()).decode());
    }

    /** "A later sequence is read likewise and replaces the one before." */
    private static void laterSequences() {
        FileMaker wide = new FileMaker();
        wide.width = 9;
        due("two sequences", FINE, sequence(), sequence(), frame());
        due("a second sequence of other width", MISMATCH, sequence(), wide.sequence(), frame());
        due("a first sequence of other width", MISMATCH, wide.sequence(), sequence(), frame());
        due("a second sequence of layout 2", FEATURE, sequence(), FileMaker.unit(1, list(128, 0)), frame());
        due("a second sequence is too short", STREAM, sequence(), FileMaker.unit(1, list(0)), frame());
        due("mismatch, then a wrong head", MISMATCH, wide.sequence(), list(255));
        due("mismatch, then no unit", MISMATCH, wide.sequence());
        for (int first = 0; first < 2; first++) {
            for (int second = 0; second < 2; second++) {
                int[] want = second == 1 ? list(130, 134) : list(128, 136);
                StillPicture x = softened(first, second);
                check.due("soft " + first + ", then " + second + ": first sample", want[0], x.sample(0, 0, 0));
                check.due("soft " + first + ", then " + second + ": second sample", want[1], x.sample(0, 1, 0));
            }
        }
    }

    /** Two samples 128 and 136 and a frame whose STRENGTH, if it has one, is 3; two sequences, soft or not. */
    private static StillPicture softened(int first, int second) {
        FileMaker made = new FileMaker();
        made.width = 2;
        made.height = 1;
        int[] wanted = new int[16];
        wanted[1] = 8;
        int[] tile = new TileWriter(false).symbol(0, 0).symbol(2, 0).differences(0, wanted).bytes();
        made.soft = first;
        int[] one = made.sequence();
        made.soft = second;
        int[] two = made.sequence();
        made.data = join(one, two, FileMaker.unit(6, list(0, 6), tile));
        StillPicture x = FileMaker.load(made.build());
        check.due("soft " + first + ", then " + second, FINE, x.decode());
        return x;
    }

    private static void dueFrame(String what, int want, int soft, int... content) {
        FileMaker made = new FileMaker();
        made.soft = soft;
        due(what, want, made.sequence(), FileMaker.unit(6, content));
    }

    /** "STREAM if a bit to be read is not there": a frame has 13 bits, or 15 if SOFT is 1. */
    private static void bitsOfAFrame() {
        for (int soft = 0; soft < 2; soft++) {
            String what = "soft " + soft + ": ";
            dueFrame(what + "no byte", STREAM, soft);
            dueFrame(what + "one byte", STREAM, soft, 0);
            dueFrame(what + "one byte with all that may be 1", STREAM, soft, 0x1f);
            dueFrame(what + "two bytes", FINE, soft, 0, 0);
            dueFrame(what + "two bytes with all that may be 1", FINE, soft, 0x1f, 0xff);
            dueFrame(what + "three bytes", FINE, soft, 0, 0, 0);
        }
    }

    /** "2 bits, FEATURE unless 0; 1 bit, FEATURE unless 0" */
    private static void featuresOfAFrame() {
        for (int three = 0; three < 8; three++) {
            int want = three == 0 ? FINE : FEATURE;
            dueFrame("first bits " + three, want, 0, three << 5, 0);
            dueFrame("first bits " + three + ", soft", want, 1, three << 5, 0);
            dueFrame("first bits " + three + " in one byte", three == 0 ? STREAM : FEATURE, 0, three << 5);
        }
    }

    /** "6 bits Q": a TYPE is read unless it is 0, and STILL and LEVEL stand behind it. */
    private static void quality() {
        for (int q = 0; q < 64; q++) {
            FileMaker made = new FileMaker();
            made.width = 4;
            made.height = 4;
            made.q = q;
            // All symbols are the last ones: blocks of 4 with mode 5, TYPE 3 and no differences.
            made.tile = list(255, 255, 255, 255);
            StillPicture x = FileMaker.load(made.build());
            check.due("Q " + q, FINE, x.decode());
            check.due("Q " + q + ": TYPE", q == 0 ? 0 : 3, x.block(0, 0, 3));
            check.due("Q " + q + ": symbols", q == 0 ? 4 : 5, x.symbols());
            check.due("Q " + q + ": table of TYPE", q == 0 ? 8192 : 7680, x.table(10, 0));
        }
        for (int still = 0; still < 2; still++) {
            FileMaker made = new FileMaker();
            made.still = still;
            StillPicture x = FileMaker.load(made.build());
            check.due("STILL " + still, FINE, x.decode());
            check.due("STILL " + still + ": PARTITION", still == 1 ? 16384 : 17408, x.table(0, 0));
        }
    }

    /** "if SOFT is 1: 2 bits STRENGTH, which is 0 otherwise" */
    private static void strengthOnlyIfSoft() {
        StillPicture soft = softened(1, 1);
        check.due("soft: first sample", 130, soft.sample(0, 0, 0));
        StillPicture hard = softened(0, 0);
        check.due("hard: first sample", 128, hard.sample(0, 0, 0));
        check.due("the tile is the same", soft.taken(), hard.taken());
        check.due("the tile is the same: symbols", soft.symbols(), hard.symbols());
    }

    /** "The rest of the byte in which the last of these bits lies is passed over; the bytes behind it are the TILE." */
    private static void restOfTheLastByte() {
        for (int soft = 0; soft < 2; soft++) {
            int bits = soft == 1 ? 1 : 3;
            for (int rest = 0; rest < 1 << bits; rest++) {
                FileMaker made = new FileMaker();
                made.soft = soft;
                made.data = join(made.sequence(), FileMaker.unit(6, list(0, rest, 0x80, 0x00)));
                StillPicture x = FileMaker.load(made.build());
                String what = "soft " + soft + ", rest " + rest;
                check.due(what, FINE, x.decode());
                // The tile begins with a 1 and 14 bits 0, which is the first symbol 1 and symbols 0 behind it.
                check.due(what + ": size", 8, x.block(0, 0, 0));
                check.due(what + ": mode", 0, x.block(0, 0, 1));
            }
        }
    }

    /** The tile ends with its unit, also where the data go on. */
    private static void tileOfTheUnit() {
        FileMaker made = new FileMaker();
        int[] bits = made.frameBits();
        made.data = join(made.sequence(), FileMaker.unit(6, bits), list(255, 255, 255, 255));
        StillPicture cut = FileMaker.load(made.build());
        check.due("no tile", FINE, cut.decode());
        check.due("no tile: size", 16, cut.block(0, 0, 0));
        made.data = join(made.sequence(), FileMaker.unit(6, bits, list(255, 255)), list(0, 0));
        StillPicture two = FileMaker.load(made.build());
        check.due("two bytes", FINE, two.decode());
        check.due("two bytes: size", 4, two.block(0, 0, 0));
        made.data = join(made.sequence(), FileMaker.lastUnit(6, bits, list(255, 255, 0, 0)));
        StillPicture open = FileMaker.load(made.build());
        check.due("to the end", FINE, open.decode());
        check.due("to the end: taken", two.taken(), open.taken());
        check.due("to the end: symbols", two.symbols(), open.symbols());
    }

    /** A unit with a fault ends the decoding, also where all that follows is in order. */
    private static void unitsInOrderBehindAFault() {
        FileMaker wide = new FileMaker();
        wide.width = 9;
        dueBefore("a head of 128 with a size", STREAM, list(130, 0));
        dueBefore("a feature in the head", FEATURE, list(22, 0));
        dueBefore("a sequence without bytes", STREAM, FileMaker.unit(1));
        dueBefore("a sequence of one byte", STREAM, FileMaker.unit(1, list(0)));
        dueBefore("a sequence of layout 2", FEATURE, FileMaker.unit(1, list(128, 0)));
        dueBefore("a sequence with the first of two bits", FEATURE, FileMaker.unit(1, FileMaker.bits(0, 0, 3, 7, 4, 7, 4, 2, 2, 0, 1)));
        dueBefore("a sequence with the second of two bits", FEATURE, FileMaker.unit(1, FileMaker.bits(0, 0, 3, 7, 4, 7, 4, 1, 2, 0, 1)));
        dueBefore("a sequence of other width", MISMATCH, wide.sequence());
        dueBefore("no fault", FINE, FileMaker.unit(2, list(255)));
        dueBehind("a frame without bytes", STREAM, FileMaker.unit(6));
        dueBehind("a frame of one byte", STREAM, FileMaker.unit(6, list(0)));
        for (int three = 1; three < 8; three++) {
            dueBehind("a frame with first bits " + three, FEATURE, FileMaker.unit(6, list(three << 5, 0)));
        }
        dueBehind("no fault", FINE, FileMaker.unit(2, list(255)));
        due("a frame, then sequence and frame", STREAM, frame(), sequence(), frame());
        due("a frame without bytes, then sequence and frame", STREAM, FileMaker.unit(6), sequence(), frame());
    }

    private static void dueBefore(String what, int want, int[] unit) {
        due(what + ", first", want, unit, sequence(), frame());
        dueBehind(what, want, unit);
    }

    private static void dueBehind(String what, int want, int[] unit) {
        due(what + ", behind a sequence", want, sequence(), unit, frame());
        due(what + ", behind a sequence and before one", want, sequence(), unit, sequence(), frame());
    }
}
