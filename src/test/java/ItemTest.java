/** Promise 7, steps 3 to 5: each sentence about the item, its data and its properties, at its edges. */
public final class ItemTest {
    private static final Check check = new Check();
    private static final int FINE = StillPicture.FINE;
    private static final int ABSENT = StillPicture.ABSENT;
    private static final int EXTENT = StillPicture.EXTENT;
    private static final int FEATURE = StillPicture.FEATURE;
    private static final int MISMATCH = StillPicture.MISMATCH;
    private static final int STREAM = StillPicture.STREAM;
    /** Stands for the offset of the data in what withPlaces is given. */
    private static final int DATA_AT = -1;

    private static final int[] S = {4, 's', 8, 8};
    private static final int[] C = {3, 'c', 0};

    public static void main(String[] args) {
        boxesThatMustBeThere();
        firstBoxIsNoOther();
        firstBoxesAreMeant();
        contentOfP();
        itemIsAnyByte();
        numberOfEntries();
        placesAreReadInOrder();
        firstEntryOfTheItem();
        numberOfPairs();
        extentWithinTheFile();
        extentWithinAFullFile();
        lengthsTogether();
        extentAfterEachPair();
        dataInPieces();
        propertiesAreNumbered();
        propertiesAreInTheStretchOfR();
        linksAreReadToTheirEnd();
        propertyNone();
        neededProperties();
        linksInTheirOrder();
        entriesOfTheItemAndOfOthers();
        sAndCMustBeThere();
        contentOfS();
        contentOfC();
        contentOfX();
        firstPropertiesAreMeant();
        lastBoxOfAFullFile();
        check.end();
    }

    private static int[] list(int... bytes) {
        return bytes;
    }

    private static int[] join(int[]... parts) {
        return FileMaker.join(parts);
    }

    private static int[] box(int type, int[]... content) {
        return FileMaker.box(type, content);
    }

    private static void due(String what, int want, int[] file) {
        check.due(what, want, FileMaker.load(file).decode());
    }

    /** "ABSENT (3) unless the file's stretch has a box of type m, that has in its stretch boxes p, l and r" */
    private static void boxesThatMustBeThere() {
        int[] start = list(3, 'f', 'v');
        int[] p = box('p', list(7));
        int[] l = box('l', list(1, 7, 0));
        int[] r = box('r', S, C, box('a', list(7, 2, 1, 2)));
        due("m with all", STREAM, join(start, box('m', p, l, r)));
        due("m with all, turned round", STREAM, join(start, box('m', r, l, p)));
        due("no m", ABSENT, start);
        due("p, l, r beside m", ABSENT, join(start, p, l, r, box('m')));
        due("p, l, r without m", ABSENT, join(start, p, l, r));
        due("no p", ABSENT, join(start, box('m', l, r)));
        due("no l", ABSENT, join(start, box('m', p, r)));
        due("no r", ABSENT, join(start, box('m', p, l)));
        due("p in the file", ABSENT, join(start, p, box('m', l, r)));
        due("l in the file", ABSENT, join(start, l, box('m', p, r)));
        due("r in the file", ABSENT, join(start, r, box('m', p, l)));
        due("p in r", ABSENT, join(start, box('m', l, box('r', p, S, C, box('a', list(7, 2, 2, 3))))));
        due("p, l, r in m in m", ABSENT, join(start, box('m', box('m', p, l, r))));
        due("m in r", ABSENT, join(start, box('r', box('m', p, l, r))));
        due("no a", ABSENT, join(start, box('m', p, l, box('r', S, C))));
        due("a in m", ABSENT, join(start, box('m', p, l, box('r', S, C), box('a', list(7, 2, 1, 2)))));
        due("a in r in r", ABSENT, join(start, box('m', p, l, box('r', S, C, box('r', box('a', list(7, 2, 1, 2)))))));
        due("f again", STREAM, join(start, box('f'), box('m', p, l, r)));
        due("a, s and c in the file and no r", ABSENT, join(start, S, C, box('a', list(7, 2, 2, 3)), box('m', p, l)));
    }

    /** The content of f would do for what is absent, but is not taken for it. */
    private static void firstBoxIsNoOther() {
        int[] p = box('p', list(7));
        int[] l = box('l', list(1, 7, 0));
        int[] r = box('r', S, C, box('a', list(7, 2, 1, 2)));
        due("f for p", ABSENT, join(box('f', list(7, 'v')), box('m', l, r)));
        due("f for l", ABSENT, join(box('f', list(1, 7, 0, 'v')), box('m', p, r)));
        due("f for a", ABSENT, join(box('f', list(7, 2, 1, 2, 'v', 0)), box('m', p, l, box('r', S, C))));
        due("f with all", STREAM, join(box('f', list(7, 2, 1, 2, 'v', 0)), box('m', p, l, r)));
    }

    /** "(the first such one is meant)", "(the first ones of these types are meant)" */
    private static void firstBoxesAreMeant() {
        FileMaker made = new FileMaker();
        made.brand = join(list(3, 'f', 'v'), box('m'));
        due("the first m is empty", ABSENT, made.build());
        made = new FileMaker();
        made.brand = join(list(3, 'f', 'v'), box('m', box('p', list(7)), box('l', list(1, 7, 0)), box('r')));
        due("the first m has no a", ABSENT, made.build());
        made = new FileMaker();
        made.chosen = join(box('p', list(7)), box('p', list(9)), box('p'));
        due("the first p", FINE, made.build());
        made.chosen = join(box('p', list(9)), box('p', list(7)));
        due("the first p is of no entry", ABSENT, made.build());
        made.chosen = join(box('p'), box('p', list(7)));
        due("the first p is empty", ABSENT, made.build());
        made.chosen = join(box('l'), box('p', list(7)));
        due("the first l is empty", ABSENT, made.build());
        made.chosen = join(box('r'), box('p', list(7)));
        due("the first r is empty", ABSENT, made.build());
        made.chosen = join(box('r', box('a')), box('p', list(7)));
        due("the first r has an empty a", ABSENT, made.build());
        made = new FileMaker();
        made.more = join(box('p', list(3)), box('l'), box('r'));
        due("later boxes of the same types", FINE, made.build());
    }

    /** "and p has content. THE ITEM is the first byte of p's content." */
    private static void contentOfP() {
        FileMaker made = new FileMaker();
        made.chosen = box('p');
        due("p without content", ABSENT, made.build());
        made.chosen = box('p', list(7));
        due("p with a byte", FINE, made.build());
        made.chosen = box('p', list(7, 8, 9));
        due("p with more", FINE, made.build());
        made.chosen = box('p', list(8, 7));
        due("the second byte of p", ABSENT, made.build());
    }

    private static void itemIsAnyByte() {
        for (int item = 0; item < 256; item++) {
            FileMaker made = new FileMaker();
            made.item = item;
            due("item " + item, FINE, made.build());
            made.chosen = box('p', list((item + 1) % 256));
            due("not item " + item, ABSENT, made.build());
        }
    }

    /** A file in which l has the bytes that are given, with the offset of the data put for each DATA_AT. */
    private static int[] withPlaces(int... content) {
        FileMaker made = new FileMaker();
        int[] data = join(made.sequence(), made.frame());
        made.data = data;
        made.places = box('l', content);
        int start = made.build().length - data.length;
        int[] filled = content.clone();
        for (int i = 0; i < filled.length; i++) {
            filled[i] = filled[i] == DATA_AT ? start : filled[i];
        }
        made.places = box('l', filled);
        return made.build();
    }

    private static int dataLength() {
        FileMaker made = new FileMaker();
        return join(made.sequence(), made.frame()).length;
    }

    /** "a number of entries, and as many entries"; "ABSENT .. there is no such entry" */
    private static void numberOfEntries() {
        int n = dataLength();
        due("l is empty", ABSENT, withPlaces());
        due("no entries", ABSENT, withPlaces(0));
        due("no entries, and one there", ABSENT, withPlaces(0, 7, 1, DATA_AT, n));
        due("one entry", FINE, withPlaces(1, 7, 1, DATA_AT, n));
        due("one entry, of another", ABSENT, withPlaces(1, 8, 1, DATA_AT, n));
        due("second entry", FINE, withPlaces(2, 8, 1, 1, 1, 7, 1, DATA_AT, n));
        due("second entry is not counted", ABSENT, withPlaces(1, 8, 1, 1, 1, 7, 1, DATA_AT, n));
        due("255 entries, the first one there", FINE, withPlaces(255, 7, 1, DATA_AT, n));
        due("255 entries, the first one of another", ABSENT, withPlaces(255, 8, 0));
        int[] many = {21};
        for (int i = 0; i < 20; i++) {
            many = join(many, list(i < 7 ? i : i + 1, 0));
        }
        int[] last = new int[many.length + 4];
        System.arraycopy(many, 0, last, 0, many.length);
        System.arraycopy(list(7, 1, DATA_AT, n), 0, last, many.length, 4);
        due("entry 21 of 21", FINE, withPlaces(last));
        last[0] = 20;
        due("entry 21 of 20", ABSENT, withPlaces(last));
    }

    /** "ABSENT if a byte that is to be read is not there", for each byte of two entries. */
    private static void placesAreReadInOrder() {
        int n = dataLength();
        int[] whole = {2, 8, 2, 1, 1, 2, 2, 7, 2, DATA_AT, n, 0, 0};
        for (int length = 0; length <= whole.length; length++) {
            int[] part = java.util.Arrays.copyOf(whole, length);
            due(length + " bytes of l", length == whole.length ? FINE : ABSENT, withPlaces(part));
        }
        due("bytes behind the entries", FINE, withPlaces(1, 7, 1, DATA_AT, n, 1, 2, 3));
        due("what is behind l is not read", ABSENT, withPlaces(2, 8, 2, 1, 1, 2));
        due("255 pairs of another are not there", ABSENT, withPlaces(2, 8, 255, 7, 1, DATA_AT, n));
        due("3 pairs of another, two there", ABSENT, withPlaces(2, 8, 3, 7, 1, DATA_AT, n));
        due("2 pairs of another, which look like an entry", ABSENT, withPlaces(2, 8, 2, 7, 1, DATA_AT, n));
        due("2 pairs of another, then the entry", FINE, withPlaces(2, 8, 2, 7, 1, 0, 0, 7, 1, DATA_AT, n));
        due("extents of others are free", FINE, withPlaces(2, 8, 1, 250, 250, 7, 1, DATA_AT, n));
        due("lengths of others are free", FINE, withPlaces(2, 8, 2, 0, 40, 0, 201, 7, 1, DATA_AT, n));
    }

    /** "up to the end of the first entry whose byte is the item" */
    private static void firstEntryOfTheItem() {
        int n = dataLength();
        due("the first of two entries", FINE, withPlaces(2, 7, 1, DATA_AT, n, 7, 1, 0, 1));
        due("the first of two entries has no data", STREAM, withPlaces(2, 7, 1, 0, 0, 7, 1, DATA_AT, n));
        due("a wrong entry behind it is not read", FINE, withPlaces(2, 7, 1, DATA_AT, n, 7, 1, 255, 255));
        due("a part of an entry behind it is not read", FINE, withPlaces(2, 7, 1, DATA_AT, n, 8));
        due("no entry behind it", FINE, withPlaces(2, 7, 1, DATA_AT, n));
    }

    private static void numberOfPairs() {
        int n = dataLength();
        due("no pairs", STREAM, withPlaces(1, 7, 0));
        due("no pairs counted", STREAM, withPlaces(1, 7, 0, DATA_AT, n));
        due("one pair", FINE, withPlaces(1, 7, 1, DATA_AT, n));
        due("one pair of two counted", ABSENT, withPlaces(1, 7, 2, DATA_AT, n));
        due("one pair and a half of two", ABSENT, withPlaces(1, 7, 2, DATA_AT, n, 0));
        due("one pair of 255 counted", ABSENT, withPlaces(1, 7, 255, DATA_AT, n));
        due("a pair that is not counted", FINE, withPlaces(1, 7, 1, DATA_AT, n, 255, 255));
        int[] many = new int[3 + 2 * 40];
        many[0] = 1;
        many[1] = 7;
        many[2] = 40;
        many[81] = DATA_AT;
        many[82] = n;
        due("40 pairs, all but the last empty", FINE, withPlaces(many));
    }

    /** "EXTENT (4) if offset + length is more than the file has bytes" */
    private static void extentWithinTheFile() {
        int n = dataLength();
        int all = withPlaces(1, 7, 2, DATA_AT, n, 0, 0).length;
        for (int offset = 0; offset < 256; offset++) {
            for (int length = Math.max(0, all - offset - 2); length <= all - offset + 2 && length + n <= 200; length++) {
                int want = offset + length > all ? EXTENT : FINE;
                due("offset " + offset + ", length " + length, want, withPlaces(1, 7, 2, DATA_AT, n, offset, length));
            }
        }
        due("an empty extent at the end", FINE, withPlaces(1, 7, 2, DATA_AT, n, all, 0));
        due("an empty extent behind the end", EXTENT, withPlaces(1, 7, 2, DATA_AT, n, all + 1, 0));
        due("an empty extent at 255", EXTENT, withPlaces(1, 7, 2, DATA_AT, n, 255, 0));
        due("offset 255 and length 255", EXTENT, withPlaces(1, 7, 1, 255, 255));
        due("offset 0 and length 255", EXTENT, withPlaces(1, 7, 1, 0, 255));
    }

    private static void extentWithinAFullFile() {
        int n = dataLength();
        dueFull("to the end", FINE, 200, 40, n);
        dueFull("beyond the end", EXTENT, 200, 41, n);
        dueFull("the last byte", FINE, 239, 1, n);
        dueFull("the last byte and one more", EXTENT, 239, 2, n);
        dueFull("none at the end", FINE, 240, 0, n);
        dueFull("one at the end", EXTENT, 240, 1, n);
        dueFull("none behind the end", EXTENT, 241, 0, n);
    }

    private static void dueFull(String what, int want, int offset, int length, int n) {
        int[] file = withPlaces(1, 7, 2, DATA_AT, n, offset, length);
        due("full file, " + what, want, join(file, new int[240 - file.length]));
    }

    /** "or the lengths so far are together more than 200" */
    private static void lengthsTogether() {
        int[] short1 = withPlaces(1, 7, 1, DATA_AT, 200);
        due("200 in one", FINE, join(short1, new int[240 - short1.length]));
        int[] long1 = withPlaces(1, 7, 1, DATA_AT, 201);
        due("201 in one", EXTENT, join(long1, new int[240 - long1.length]));
        int n = dataLength();
        for (int more = 198 - n; more <= 203 - n; more++) {
            int[] file = withPlaces(1, 7, 2, DATA_AT, n, 0, more);
            due(n + more + " in two", n + more > 200 ? EXTENT : FINE, join(file, new int[240 - file.length]));
        }
        int many = (200 - n) / 20;
        int rest = 200 - n - 20 * many;
        int[] pairs = new int[5 + 2 * many + 2];
        System.arraycopy(list(1, 7, many + 2, DATA_AT, n), 0, pairs, 0, 5);
        for (int i = 0; i < many; i++) {
            pairs[5 + 2 * i] = 3;
            pairs[6 + 2 * i] = 20;
        }
        pairs[pairs.length - 1] = rest;
        due("200 in many", FINE, withPlaces(pairs));
        pairs[pairs.length - 1] = rest + 1;
        due("201 in many", EXTENT, withPlaces(pairs));
        int[] none = withPlaces(1, 7, 3, DATA_AT, 200, 0, 0, 5, 0);
        due("200 and none", FINE, join(none, new int[240 - none.length]));
        int[] one = withPlaces(1, 7, 3, DATA_AT, 200, 0, 0, 5, 1);
        due("200 and one", EXTENT, join(one, new int[240 - one.length]));
    }

    /** "In reading the pairs of that one, after each pair" */
    private static void extentAfterEachPair() {
        int n = dataLength();
        due("beyond the file, then nothing", EXTENT, withPlaces(1, 7, 2, 255, 255));
        due("beyond the file, then half a pair", EXTENT, withPlaces(1, 7, 2, 255, 255, 0));
        due("half a pair beyond the file", ABSENT, withPlaces(1, 7, 1, 255));
        due("a pair, then half a pair beyond the file", ABSENT, withPlaces(1, 7, 2, DATA_AT, n, 255));
        int[] file = withPlaces(1, 7, 2, 0, 201);
        due("201 bytes, then nothing", EXTENT, join(file, new int[240 - file.length]));
        file = withPlaces(1, 7, 2, 0, 200);
        due("200 bytes, then nothing", ABSENT, join(file, new int[240 - file.length]));
        // Step 5 comes behind step 4.
        FileMaker made = new FileMaker();
        made.places = box('l', list(1, 7, 1, 255, 255));
        made.props = box('r', box('a', list(7)));
        due("extent before a link that is missing", EXTENT, made.build());
        made.places = box('l', list(1, 7, 0));
        due("a link that is missing before no data", ABSENT, made.build());
    }

    /** "The DATA are the file's bytes from the offset on, as many as the length says, for one pair after the other." */
    private static void dataInPieces() {
        FileMaker made = new FileMaker();
        int[] sequence = made.sequence();
        int[] frame = made.frame();
        made.pieces = list(1, 0, 2, 3);
        due("data in pieces", FINE, made.build());
        for (int first = 0; first <= sequence.length + frame.length; first++) {
            made.pieces = list(first);
            due("data cut behind " + first, FINE, made.build());
        }
        made = new FileMaker();
        made.data = join(frame, sequence);
        due("frame before the sequence", STREAM, made.build());
        int start = made.build().length + 2 - made.data.length;
        int[] turned = pairs(start + frame.length, sequence.length, start, frame.length);
        made.places = box('l', list(1, 7), turned);
        due("turned round by pairs", FINE, made.build());
        made.data = join(sequence, frame);
        start = made.build().length - 2 - made.data.length;
        made.places = box('l', list(1, 7), pairs(start, sequence.length + frame.length));
        due("as they are", FINE, made.build());
        start = made.build().length + 2 - made.data.length;
        made.places = box('l', list(1, 7), pairs(start, sequence.length, start, sequence.length + frame.length));
        due("the sequence twice by pairs", FINE, made.build());
        made.places = box('l', list(1, 7), pairs(start, sequence.length, start, sequence.length));
        due("the sequence twice, no frame", STREAM, made.build());
    }

    private static int[] pairs(int... offsetsAndLengths) {
        return join(list(offsetsAndLengths.length / 2), offsetsAndLengths);
    }

    private static int[] withProps(int[]... content) {
        FileMaker made = new FileMaker();
        made.props = box('r', content);
        return made.build();
    }

    private static int[] a(int... content) {
        return box('a', content);
    }

    /** "PROPERTIES are the boxes in r's stretch that are not of type a, number 1 the first"; "ABSENT if there is no such property" */
    private static void propertiesAreNumbered() {
        int[] z = box('z');
        due("s and c", FINE, withProps(S, C, a(7, 2, 1, 2)));
        due("c and s", FINE, withProps(C, S, a(7, 2, 1, 2)));
        due("a first", FINE, withProps(a(7, 2, 1, 2), S, C));
        due("a between", FINE, withProps(S, a(7, 2, 1, 2), C));
        due("a second a is no property", FINE, withProps(S, a(7, 2, 1, 2), a(9), C));
        due("the first a is empty", ABSENT, withProps(S, C, a(), a(7, 2, 1, 2)));
        due("s in another stretch", ABSENT, withProps(C, box('r', S), a(7, 2, 1, 2)));
        due("boxes of another stretch are not counted", FINE, withProps(box('r', z), S, C, a(7, 2, 2, 3)));
        int[] props = join(S, C);
        for (int count = 2; count <= 8; count++) {
            for (int number = 1; number < 128; number++) {
                int want = number <= count ? FINE : ABSENT;
                due(count + " properties, number " + number, want, withProps(props, a(7, 3, 1, 2, number)));
            }
            props = join(props, z);
        }
        due("number 3 of 2, needed", ABSENT, withProps(S, C, a(7, 3, 1, 2, 131)));
        due("number 127, needed", ABSENT, withProps(S, C, a(7, 3, 1, 2, 255)));
    }

    /** "the boxes in r's stretch": not those one deeper, nor those of a stretch behind r. */
    private static void propertiesAreInTheStretchOfR() {
        int[] z = box('z');
        for (int type : list('m', 'r')) {
            int[] deeper = box(type, z, z);
            due("the stretch itself, " + type, FINE, withProps(S, C, deeper, a(7, 3, 1, 2, 3)));
            due("a box one deeper, " + type, ABSENT, withProps(S, C, deeper, a(7, 3, 1, 2, 4)));
            due("s one deeper, " + type, ABSENT, withProps(C, box(type, S), a(7, 2, 1, 3)));
            FileMaker made = new FileMaker();
            made.props = box('r', S, C, a(7, 3, 1, 2, 3));
            made.more = deeper;
            due("a box of a stretch behind r, " + type, ABSENT, made.build());
            made.chosen = join(deeper, box('p', list(7)));
            made.more = list();
            due("a box of a stretch before r, " + type, ABSENT, made.build());
        }
    }

    /** "The content of a is read to its end: .. ABSENT if one of them is not there" */
    private static void linksAreReadToTheirEnd() {
        int[] whole = {7, 2, 1, 2, 9, 3, 5, 5, 5, 7, 0, 8, 0, 7, 1, 2};
        boolean[] isWhole = new boolean[whole.length + 1];
        for (int end : list(4, 9, 11, 13, 16)) {
            isWhole[end] = true;
        }
        for (int length = 1; length <= whole.length; length++) {
            int[] part = java.util.Arrays.copyOf(whole, length);
            due(length + " bytes of a", isWhole[length] ? FINE : ABSENT, withProps(S, C, a(part)));
        }
        due("255 bytes of an entry", ABSENT, withProps(S, C, a(7, 2, 1, 2, 9, 255, 1)));
        due("what is behind a is not read", ABSENT, withProps(S, C, a(7, 2, 1), list(3, 'z', 2)));
    }

    /** "each of its bytes b means the property b & 127 (0: none)" */
    private static void propertyNone() {
        due("0 is none", FINE, withProps(S, C, a(7, 3, 0, 1, 2)));
        due("0 is none, last", FINE, withProps(S, C, a(7, 3, 1, 2, 0)));
        due("128 is none, needed", FINE, withProps(S, C, a(7, 3, 128, 1, 2)));
        due("none for s", ABSENT, withProps(S, C, a(7, 2, 0, 2)));
        due("none for c", ABSENT, withProps(S, C, a(7, 2, 1, 128)));
        due("none alone", ABSENT, withProps(S, C, a(7, 1, 0)));
    }

    /** "NEEDED if b is 128 or more"; "FEATURE (5) if it is needed and of other type than s, x, c" */
    private static void neededProperties() {
        for (int type = 0; type < 256; type++) {
            int[] third = type == 'x' ? box('x', list(1, 8)) : box(type);
            boolean isKnown = type == 's' || type == 'c' || type == 'x';
            int free = type == 'a' ? ABSENT : FINE;
            int needed = type == 'a' ? ABSENT : isKnown ? FINE : FEATURE;
            int[] last = type == 'a' ? list() : third;
            due("type " + type, free, withProps(S, C, last, a(7, 3, 1, 2, 3)));
            due("type " + type + ", needed", needed, withProps(S, C, last, a(7, 3, 1, 2, 131)));
        }
        due("all needed", FINE, withProps(S, C, a(7, 2, 129, 130)));
        due("needed by another", FINE, withProps(S, C, box('z'), a(9, 1, 131, 7, 2, 1, 2)));
    }

    /** "things are looked at in the order in which they are told, and what is read as soon as it is read" */
    private static void linksInTheirOrder() {
        int[] z = box('z');
        due("feature, then what is missing", FEATURE, withProps(S, C, z, a(7, 4, 131, 1)));
        due("feature, then no such property", FEATURE, withProps(S, C, z, a(7, 2, 131, 4)));
        due("no such property, then feature", ABSENT, withProps(S, C, z, a(7, 2, 4, 131)));
        due("feature, then no s", FEATURE, withProps(S, C, z, a(7, 1, 131)));
        due("feature in the second entry", FEATURE, withProps(S, C, z, a(7, 2, 1, 2, 7, 1, 131)));
        due("feature, then half an entry", FEATURE, withProps(S, C, z, a(7, 3, 1, 2, 131, 9)));
        due("half an entry of another, then nothing", ABSENT, withProps(S, C, z, a(9, 5, 131, 7, 1, 131)));
        due("feature before s is too short", FEATURE, withProps(box('s'), C, z, a(7, 3, 1, 2, 131)));
    }

    /** "For an entry whose byte is the item (there may be several)" */
    private static void entriesOfTheItemAndOfOthers() {
        due("in two entries", FINE, withProps(S, C, a(7, 1, 2, 7, 1, 1)));
        due("others between", FINE, withProps(S, C, a(7, 1, 2, 9, 2, 3, 255, 7, 1, 1)));
        due("others alone", ABSENT, withProps(S, C, a(9, 2, 1, 2)));
        due("one for another", ABSENT, withProps(S, C, a(7, 1, 1, 9, 1, 2)));
        for (int other = 0; other < 256; other++) {
            boolean isItem = other == 7;
            due("a property that is not there, of " + other, isItem ? ABSENT : FINE, withProps(S, C, a(other, 1, 3, 7, 2, 1, 2)));
            due("s and c, of " + other, isItem ? FINE : ABSENT, withProps(S, C, a(other, 2, 1, 2)));
        }
        due("an entry without bytes", FINE, withProps(S, C, a(7, 0, 7, 2, 1, 2, 7, 0)));
        due("only an entry without bytes", ABSENT, withProps(S, C, a(7, 0)));
    }

    /** "ABSENT unless there are s and c" */
    private static void sAndCMustBeThere() {
        due("a is empty", ABSENT, withProps(S, C, a()));
        due("no s", ABSENT, withProps(S, C, a(7, 1, 2)));
        due("no c", ABSENT, withProps(S, C, a(7, 1, 1)));
        due("s twice and no c", ABSENT, withProps(S, C, a(7, 2, 1, 1)));
        due("x for c", ABSENT, withProps(S, box('x', list(1, 8)), a(7, 2, 1, 2)));
        due("both twice", FINE, withProps(S, C, a(7, 4, 1, 2, 1, 2)));
    }

    /** "s has at least two bytes of content" */
    private static void contentOfS() {
        due("s without bytes", ABSENT, withProps(box('s'), C, a(7, 2, 1, 2)));
        due("s with one byte", ABSENT, withProps(box('s', list(8)), C, a(7, 2, 1, 2)));
        due("s with two bytes", FINE, withProps(box('s', list(8, 8)), C, a(7, 2, 1, 2)));
        due("s with three bytes", FINE, withProps(box('s', list(8, 8, 1)), C, a(7, 2, 1, 2)));
        due("a short s that is not the item's", FINE, withProps(box('s'), C, S, a(7, 2, 2, 3)));
        FileMaker made = new FileMaker();
        made.data = list();
        made.props = box('r', box('s', list(8)), C, a(7, 2, 1, 2));
        due("a short s before the units", ABSENT, made.build());
    }

    /** "c at least one" */
    private static void contentOfC() {
        due("c without bytes", ABSENT, withProps(S, box('c'), a(7, 2, 1, 2)));
        due("c with one byte", FINE, withProps(S, box('c', list(0)), a(7, 2, 1, 2)));
        due("c with two bytes", FINE, withProps(S, box('c', list(0, 9)), a(7, 2, 1, 2)));
    }

    /** "and x, if there is one, a first byte k and k more" */
    private static void contentOfX() {
        int[] a = a(7, 3, 1, 2, 3);
        due("x without bytes", ABSENT, withProps(S, C, box('x'), a));
        for (int k = 0; k <= 20; k++) {
            for (int more = Math.max(0, k - 2); more <= k + 2; more++) {
                int[] content = new int[more + 1];
                java.util.Arrays.fill(content, 8);
                content[0] = k;
                int want = more < k ? ABSENT : k == 1 ? FINE : MISMATCH;
                due("x of " + k + " with " + more, want, withProps(S, C, box('x', content), a));
            }
        }
        due("x of 255", ABSENT, withProps(S, C, box('x', list(255, 8)), a));
        due("x that is not the item's", FINE, withProps(S, C, box('x'), a(7, 2, 1, 2)));
        due("x that is another's", FINE, withProps(S, C, box('x'), a(7, 2, 1, 2, 9, 1, 3)));
    }

    /** "in the order in which their bytes are read, the first of type s, the first of type c and, if there is one, the first of type x" */
    private static void firstPropertiesAreMeant() {
        int[] otherS = box('s', list(9, 9));
        int[] otherC = box('c', list(1));
        int[] x = box('x', list(1, 8));
        int[] otherX = box('x', list(1, 9));
        due("the first s", FINE, withProps(S, C, otherS, a(7, 3, 1, 2, 3)));
        due("the first s by its byte", MISMATCH, withProps(S, C, otherS, a(7, 3, 3, 2, 1)));
        due("the first s by its entry", MISMATCH, withProps(S, C, otherS, a(7, 1, 3, 7, 2, 1, 2)));
        due("the first s of the item", FINE, withProps(S, C, otherS, a(9, 1, 3, 7, 2, 1, 2)));
        due("the first s is too short", ABSENT, withProps(box('s', list(8)), C, S, a(7, 3, 1, 2, 3)));
        due("the second s is too short", FINE, withProps(S, C, box('s', list(8)), a(7, 3, 1, 2, 3)));
        due("the first c", FINE, withProps(S, C, otherC, a(7, 3, 1, 2, 3)));
        due("the first c by its byte", MISMATCH, withProps(S, C, otherC, a(7, 3, 3, 1, 2)));
        due("the first c is empty", ABSENT, withProps(S, box('c'), C, a(7, 3, 1, 2, 3)));
        due("the second c is empty", FINE, withProps(S, C, box('c'), a(7, 3, 1, 2, 3)));
        due("the first x", FINE, withProps(S, C, x, otherX, a(7, 4, 1, 2, 3, 4)));
        due("the first x by its byte", MISMATCH, withProps(S, C, x, otherX, a(7, 4, 1, 2, 4, 3)));
        due("the first x is too short", ABSENT, withProps(S, C, box('x', list(1)), x, a(7, 4, 1, 2, 3, 4)));
        due("the second x is too short", FINE, withProps(S, C, x, box('x', list(1)), a(7, 4, 1, 2, 3, 4)));
    }

    /** A file of 240 bytes with the data in f, whose last box is the last one of m. */
    private static int[] full(int[]... inM) {
        FileMaker made = new FileMaker();
        int[] all = box('m', inM);
        int[] data = join(list('v'), made.sequence(), made.frame());
        return join(box('f', data, new int[240 - 2 - all.length - data.length]), all);
    }

    /** A byte of an empty box would be behind the file, and behind all the room there is for it. */
    private static void lastBoxOfAFullFile() {
        int[] p = box('p', list(7));
        int[] l = box('l', list(1, 7, 1, 3, dataLength()));
        int[] links = a(7, 3, 1, 2, 3);
        int[] x = box('x', list(1, 8));
        due("full, x last", FINE, full(p, l, box('r', links, S, C, x)));
        due("full, x last and empty", ABSENT, full(p, l, box('r', links, S, C, box('x'))));
        due("full, x last with one byte", ABSENT, full(p, l, box('r', links, S, C, box('x', list(1)))));
        due("full, s last", FINE, full(p, l, box('r', links, x, C, S)));
        due("full, s last and empty", ABSENT, full(p, l, box('r', links, x, C, box('s'))));
        due("full, s last with one byte", ABSENT, full(p, l, box('r', links, x, C, box('s', list(8)))));
        due("full, c last", FINE, full(p, l, box('r', links, x, S, C)));
        due("full, c last and empty", ABSENT, full(p, l, box('r', links, x, S, box('c'))));
        due("full, a last", FINE, full(p, l, box('r', x, S, C, links)));
        due("full, a last and empty", ABSENT, full(p, l, box('r', x, S, C, a())));
        due("full, a last with one byte", ABSENT, full(p, l, box('r', x, S, C, a(7))));
        due("full, a last with a byte that is not there", ABSENT, full(p, l, box('r', x, S, C, a(7, 3, 1, 2))));
        int[] r = box('r', links, S, C, x);
        due("full, p last", FINE, full(r, l, p));
        due("full, p last and empty", ABSENT, full(r, l, box('p')));
        due("full, l last", FINE, full(r, p, l));
        due("full, l last and empty", ABSENT, full(r, p, box('l')));
        due("full, l last with one byte", ABSENT, full(r, p, box('l', list(1))));
        due("full, l last with an entry of one byte", ABSENT, full(r, p, box('l', list(1, 7))));
        due("full, l last with half a pair", ABSENT, full(r, p, box('l', list(1, 7, 1, 3))));
    }
}
