/** Promise 7, steps 1 and 2: each sentence about boxes and brand, at its edges. */
public final class BoxesTest {
    private static final Check check = new Check();
    private static final int FINE = StillPicture.FINE;
    private static final int BOXES = StillPicture.BOXES;
    private static final int BRAND = StillPicture.BRAND;
    private static final int ABSENT = StillPicture.ABSENT;
    /** A file of this alone is in order up to step 3. */
    private static final int[] START = {3, 'f', 'v'};

    public static void main(String[] args) {
        emptyFile();
        fullFile();
        sizeOfABoxOfTheFile();
        sizeOfABoxInside();
        sizeZero();
        sizeOne();
        roomForTwoBytes();
        contentOfMAndR();
        contentOfOtherTypes();
        sixteenBoxes();
        sixteenBoxesInside();
        depthFour();
        depthFourInTheFirstBox();
        brand();
        letters();
        olderBoxesAreGone();
        check.end();
    }

    private static int[] list(int... bytes) {
        return bytes;
    }

    private static int[] join(int[]... parts) {
        return FileMaker.join(parts);
    }

    private static int[] box(int type, int[]... content) {
        return FileMaker.box(type, content);
    }

    private static void due(String what, int want, int[] file) {
        check.due(what, want, FileMaker.load(file).decode());
    }

    private static int[] times(int count, int... box) {
        int[] all = {};
        for (int i = 0; i < count; i++) {
            all = join(all, box);
        }
        return all;
    }

    /** "unless there is a box in the file" */
    private static void emptyFile() {
        due("no file", BRAND, list());
    }

    private static void fullFile() {
        for (int n = 0; n < 256; n++) {
            int[] file = new int[240];
            java.util.Arrays.fill(file, 3, 238, 1);
            file[0] = n;
            file[1] = 'f';
            file[2] = 'v';
            file[238] = 2;
            file[239] = 'v';
            // Behind 238 bytes there is room for one more box, of two bytes.
            boolean isWhole = n == 0 || n == 240 || n == 238;
            due("240 bytes, n is " + n, isWhole ? ABSENT : BOXES, file);
        }
        due("240 bytes of 0", BRAND, new int[240]);
        int[] plain = new FileMaker().build();
        due("a plain file of 240 bytes", FINE, join(plain, new int[240 - plain.length]));
        due("a plain file of 239 bytes", FINE, join(plain, new int[239 - plain.length]));
    }

    /** "n is the number of all its bytes"; "a box does not lie whole in its stretch" */
    private static void sizeOfABoxOfTheFile() {
        for (int n = 0; n < 256; n++) {
            boolean isWhole = n == 0 || n == 2 || n == 6;
            due("6 bytes for n " + n, isWhole ? ABSENT : BOXES, join(START, list(n, 'z', 4, 'y', 9, 9)));
        }
        due("a box beyond the file", BOXES, list(4, 'f', 'v'));
        due("a box that is the file", ABSENT, list(3, 'f', 'v'));
        due("a box before the file's end", BOXES, list(2, 'f', 'v'));
    }

    /** The same inside m and r, where the bytes that a box would need are behind the stretch. */
    private static void sizeOfABoxInside() {
        int[] behind = box('w', new int[100]);
        for (int n = 0; n < 256; n++) {
            boolean isWhole = n == 0 || n == 2 || n == 6;
            int[] six = list(n, 'z', 4, 'y', 9, 9);
            int want = isWhole ? ABSENT : BOXES;
            due("in m, n " + n, want, join(START, box('m', six), behind));
            due("in r, n " + n, want, join(START, box('r', six), behind));
            due("in r in m, n " + n, want, join(START, box('m', box('r', six), list(3, 'u', 1)), behind));
            due("behind a box in m, n " + n, want, join(START, box('m', list(3, 'u', 1), six), behind));
        }
    }

    /** "or 0 when it goes to the end of the stretch" */
    private static void sizeZero() {
        due("n is 0 for the first box", ABSENT, list(0, 'f', 'a', 'v'));
        due("n is 0, v behind what follows", ABSENT, list(0, 'f', 3, 'z', 'v'));
        due("n is 0 without content", ABSENT, list(3, 'f', 'v', 0, 'm'));
        due("n is 0 for the first box without content", BRAND, list(0, 'f'));
        due("n is 0 and there is no type", BOXES, list(3, 'f', 'v', 0));
        FileMaker open = new FileMaker();
        open.more = list(0, 'z', 1, 1);
        due("n is 0 inside m", FINE, open.build());
        open.more = list(0, 'z');
        due("n is 0 inside m without content", FINE, open.build());
        open.more = list(0);
        due("n is 0 inside m without type", BOXES, open.build());
        // Only to the end of m: what is behind m are boxes of the file.
        due("n is 0 inside m, then a wrong box", BOXES, join(START, box('m', list(0, 'z', 1)), list(1, 'z')));
        due("n is 0 for m, with a wrong box in it", BOXES, join(START, list(0, 'm', 1, 'z')));
        due("n is 0 for m, with a box in it", ABSENT, join(START, list(0, 'm', 2, 'z')));
    }

    /** "BOXES (1) when n is 1" */
    private static void sizeOne() {
        due("n is 1 alone", BOXES, list(1));
        due("n is 1 for the first box", BOXES, list(1, 'f', 'v'));
        due("n is 1 for the last box", BOXES, join(START, list(1, 'z')));
        due("n is 2 for the last box", ABSENT, join(START, list(2, 'z')));
        // After one byte there would be a whole box again.
        due("n is 1, then a box", BOXES, join(START, list(1, 2, 'z')));
        due("n is 1 in m", BOXES, join(START, box('m', list(1, 2, 'z'))));
        due("n is 1 in r", BOXES, join(START, box('r', list(1, 2, 'z'))));
    }

    /** "(also when there is no room for its first two bytes)" */
    private static void roomForTwoBytes() {
        for (int b = 0; b < 256; b++) {
            due("one byte " + b, BOXES, list(b));
            due("a byte behind a box: " + b, BOXES, join(START, list(b)));
            due("a byte in m: " + b, BOXES, join(START, box('m', list(b))));
            due("a byte in r: " + b, BOXES, join(START, box('r', list(b))));
            due("a byte behind a box in r: " + b, BOXES, join(START, box('r', list(2, 'z', b)), list(2, 'z')));
        }
        due("no byte in m", ABSENT, join(START, box('m')));
        due("no byte in r", ABSENT, join(START, box('r')));
    }

    /** "The content of a box of type m or r is itself a stretch" */
    private static void contentOfMAndR() {
        int[] wrong = list(1, 'z');
        due("a wrong box in m", BOXES, join(START, box('m', wrong)));
        due("a wrong box in r", BOXES, join(START, box('r', wrong)));
        due("a wrong box in the second m", BOXES, join(START, box('m'), box('m', wrong)));
        due("a wrong box in m in m", BOXES, join(START, box('m', box('m', wrong))));
        due("a wrong box in r in r", BOXES, join(START, box('r', box('r', wrong))));
        due("a wrong box in m in r in m", BOXES, join(START, box('m', box('r', box('m', wrong)))));
        due("a wrong box in m, the first box", BOXES, box('m', wrong));
        due("a right box in m, the first box", BRAND, box('m', list(2, 'z')));
    }

    private static void contentOfOtherTypes() {
        for (int type = 0; type < 256; type++) {
            boolean isStretch = type == 'm' || type == 'r';
            due("a wrong box in " + type, isStretch ? BOXES : ABSENT, join(START, box(type, list(1))));
            due("a wrong box in m in " + type, isStretch ? BOXES : ABSENT, join(START, box(type, box('m', list(1)))));
            due("a wrong box in " + type + " in m", isStretch ? BOXES : ABSENT, join(START, box('m', box(type, list(1)))));
        }
    }

    /** "there are more than 16 boxes altogether" */
    private static void sixteenBoxes() {
        for (int count = 14; count <= 40; count++) {
            due("f and " + count + " more", count <= 15 ? ABSENT : BOXES, join(START, times(count, 2, 'z')));
        }
        due("16 without a brand", BRAND, times(16, 2, 'z'));
        due("17 without a brand", BOXES, times(17, 2, 'z'));
        due("120 without a brand", BOXES, times(120, 2, 'z'));
        FileMaker many = new FileMaker();
        many.more = times(7, 2, 'z');
        due("a whole file of 16", FINE, many.build());
        many.more = times(8, 2, 'z');
        due("a whole file of 17", BOXES, many.build());
    }

    private static void sixteenBoxesInside() {
        due("14 in m", ABSENT, join(START, box('m', times(14, 2, 'z'))));
        due("15 in m", BOXES, join(START, box('m', times(15, 2, 'z'))));
        due("13 in r in m", ABSENT, join(START, box('m', box('r', times(13, 2, 'z')))));
        due("14 in r in m", BOXES, join(START, box('m', box('r', times(14, 2, 'z')))));
        due("7 in m and 6 in r", ABSENT, join(START, box('m', times(7, 2, 'z')), box('r', times(6, 2, 'z'))));
        due("7 in m and 7 in r", BOXES, join(START, box('m', times(7, 2, 'z')), box('r', times(7, 2, 'z'))));
        due("13 m with none and r with one", ABSENT, join(START, times(13, 2, 'm'), box('r', list(2, 'z'))));
        due("13 m with none and r with two", BOXES, join(START, times(13, 2, 'm'), box('r', times(2, 2, 'z'))));
        for (int type : list('m', 'r')) {
            due("box 16 is a stretch with none, " + type, ABSENT, join(START, times(14, 2, 'z'), box(type)));
            due("box 16 is a stretch with one, " + type, BOXES, join(START, times(14, 2, 'z'), box(type, list(2, 'z'))));
            due("box 16 is a stretch with a byte, " + type, BOXES, join(START, times(14, 2, 'z'), box(type, list(2))));
        }
        // What only looks like boxes is not counted.
        due("40 in z", ABSENT, join(START, box('z', times(40, 2, 'z'))));
    }

    /** "or one has depth 5" */
    private static void depthFour() {
        int[] types = {'m', 'r'};
        for (int kinds = 0; kinds < 16; kinds++) {
            int first = types[kinds & 1];
            int second = types[(kinds >> 1) & 1];
            int third = types[(kinds >> 2) & 1];
            int fourth = types[kinds >> 3];
            String what = ", kinds " + kinds;
            due("depth 4" + what, ABSENT, join(START, box(first, box(second, box(third, box(fourth))))));
            due("depth 5" + what, BOXES, join(START, box(first, box(second, box(third, box(fourth, list(2, 'z')))))));
            due("a byte at depth 5" + what, BOXES, join(START, box(first, box(second, box(third, box(fourth, list(2)))))));
            due("depth 4, another type" + what, ABSENT,
                join(START, box(first, box(second, box(third, list(4, 'z', 2, 'z'))))));
        }
        FileMaker deep = new FileMaker();
        deep.more = box('m', box('r', box('r')));
        due("a whole file of depth 4", FINE, deep.build());
        deep.more = box('m', box('r', box('r', list(2, 'z'))));
        due("a whole file of depth 5", BOXES, deep.build());
        deep.more = box('m', box('r', box('z', list(2, 'z'))));
        due("what looks like depth 5", FINE, deep.build());
    }

    /** Depth is counted from the file, also in its first box, which is no f then. */
    private static void depthFourInTheFirstBox() {
        int[] types = {'m', 'r'};
        for (int type : types) {
            String what = ", the first box is " + type;
            due("depth 4" + what, BRAND, box(type, box(type, box(type, list(2, 'z')))));
            due("depth 4, a stretch" + what, BRAND, box(type, box(type, box(type, box(type)))));
            due("depth 5" + what, BOXES, box(type, box(type, box(type, box(type, list(2, 'z'))))));
            due("depth 5, then f" + what, BOXES, join(box(type, box(type, box(type, box(type, list(2, 'z'))))), START));
        }
    }

    /** "BRAND (2) unless there is a box in the file, the first one has type f, and its content has a byte v" */
    private static void brand() {
        int[][] good = {
            {3, 'f', 'v'}, {5, 'f', 'v', 'a', 'b'}, {5, 'f', 'a', 'v', 'b'}, {5, 'f', 'a', 'b', 'v'}, {4, 'f', 'v', 'v'},
            {3, 'f', 'v', 3, 'f', 'w'}, {3, 'f', 'v', 3, 'g', 'w'},
        };
        int[][] bad = {
            {2, 'f'}, {3, 'f', 'w'}, {5, 'f', 'a', 'b', 'w'}, {3, 'g', 'v'}, {2, 'z', 3, 'f', 'v'}, {2, 'f', 3, 'f', 'v'},
            {2, 'f', 2, 'v'}, {3, 'v', 'v'}, {3, 'f', 'v' + 1}, {3, 'f', 'v' - 1}, {3, 'f' + 1, 'v'}, {3, 'f' - 1, 'v'},
        };
        for (int i = 0; i < good.length; i++) {
            FileMaker made = new FileMaker();
            made.brand = good[i];
            due("brand " + i, FINE, made.build());
            due("brand alone " + i, ABSENT, good[i]);
        }
        for (int i = 0; i < bad.length; i++) {
            FileMaker made = new FileMaker();
            made.brand = bad[i];
            due("no brand " + i, BRAND, made.build());
            due("no brand alone " + i, BRAND, bad[i]);
        }
        // Here n of a box is the code of v, which is no content.
        due("n is v", BRAND, join(list('v', 'f'), new int[116]));
        due("v right behind the content", BRAND, join(list(3, 'f', 'a', 'v', 'z'), new int[116]));
        due("boxes before brand", BOXES, list(3, 'g', 'v', 1));
    }

    /** "Letters stand for their codes." */
    private static void letters() {
        due("codes", ABSENT, list(3, 102, 118));
        due("great letters", BRAND, list(3, 70, 86));
        due("great M is no stretch", ABSENT, join(START, box('M', list(1))));
        due("code of m", BOXES, join(START, box(109, list(1))));
        due("code of r", BOXES, join(START, box(114, list(1))));
    }

    private static void dueNext(String what, int want, StillPicture x, int[] file) {
        x.clear();
        for (int i = 0; i < file.length; i++) {
            x.add(file[i]);
        }
        check.due(what, want, x.decode());
    }

    /** The same object decodes one file after the other; the boxes of the older one are no more. */
    private static void olderBoxesAreGone() {
        int[] plain = new FileMaker().build();
        int[] some = join(box('s', list(8, 8)), box('c', list(0)));
        FileMaker missing = new FileMaker();
        missing.props = box('r', some, box('a', list(7, 3, 1, 2, 3)));
        FileMaker made = new FileMaker();
        for (int more = 1; more <= 7; more++) {
            StillPicture x = new StillPicture();
            made.more = times(more, 2, 'z');
            dueNext(more + " boxes more", FINE, x, made.build());
            dueNext("no property 3 behind " + more + " boxes more", ABSENT, x, missing.build());
            dueNext("plain behind " + more + " boxes more", FINE, x, plain);
        }
        for (int more = 1; more <= 6; more++) {
            StillPicture x = new StillPicture();
            FileMaker inside = new FileMaker();
            inside.props = box('r', some, box('a', list(7, 2, 1, 2)), times(more, 2, 'm'));
            dueNext(more + " stretches more", FINE, x, inside.build());
            dueNext("no property 3 behind " + more + " stretches more", ABSENT, x, missing.build());
            dueNext("plain behind " + more + " stretches more", FINE, x, plain);
        }
        StillPicture x = new StillPicture();
        dueNext("plain", FINE, x, plain);
        dueNext("f alone", ABSENT, x, START);
        dueNext("nothing", BRAND, x, list());
        dueNext("plain again", FINE, x, plain);
        dueNext("one byte", BOXES, x, list(3));
        // The byte that would be read behind the file's end is the old one.
        dueNext("two bytes", BOXES, x, list(3, 'f'));
        FileMaker deep = new FileMaker();
        deep.props = box('r', some, box('a', list(7, 2, 1, 2)), box('m', box('z', new int[9])));
        dueNext("a stretch with a box", FINE, x, deep.build());
        dueNext("plain behind a stretch with a box", FINE, x, plain);
    }
}
