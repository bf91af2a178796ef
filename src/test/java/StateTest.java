/** Promises 1 to 7: what stays of file and picture from call to call, and what does not. */
public final class StateTest {
    private static final Check check = new Check();

    public static void main(String[] args) {
        newObjectHasNoPicture();
        fileCallsMakeNoPicture();
        patchLeavesThePicture();
        clearLeavesThePicture();
        addLeavesThePicture();
        wordLeavesThePicture();
        refusedCallsLeaveThePictureAndTheFile();
        questionsChangeNothing();
        eachCodeLeavesNoPicture();
        decodingLeavesTheFile();
        aSmallPictureBehindAGreatOne();
        eachDecodingBeginsAnew();
        twoObjectsShareNothing();
        theLastCallThatIsPromised();
        check.end();
    }

    /** A file with three planes of 8 times 8 and something in each of them. */
    private static int[] goodFile() {
        FileMaker made = new FileMaker();
        made.layout = 1;
        made.q = 9;
        made.level = 2;
        made.soft = 1;
        made.strength = 1;
        made.tile = FileMaker.list(0xc3, 0x3c, 0x91, 0xd2, 0x57, 0x18, 0xee, 0x42, 0x9a, 0x75, 0x33, 0xc4, 0x0d, 0xb8,
            0x5e, 0x27, 0x81, 0xf6, 0x49, 0x12, 0xac, 0x6f, 0xd9, 0x30);
        return made.build();
    }

    private static void load(StillPicture x, int[] file) {
        x.clear();
        int whole = file.length / 4 * 4;
        for (int i = 0; i < whole; i += 4) {
            x.word(file[i] << 24 | file[i + 1] << 16 | file[i + 2] << 8 | file[i + 3]);
        }
        for (int i = whole; i < file.length; i++) {
            x.add(file[i]);
        }
    }

    private static StillPicture decoded(String what, int[] file) {
        StillPicture x = new StillPicture();
        load(x, file);
        check.due(what + ": decode", StillPicture.FINE, x.decode());
        return x;
    }

    private static void dueNone(String what, StillPicture x) {
        Answers.same(check, what, Answers.none(), Answers.of(x));
    }

    private static void newObjectHasNoPicture() {
        StillPicture x = new StillPicture();
        check.due("new: size", 0, x.size());
        dueNone("new", x);
        check.due("new: there is no byte", -1, x.patch(0, 0));
    }

    private static void fileCallsMakeNoPicture() {
        StillPicture x = new StillPicture();
        load(x, goodFile());
        dueNone("loaded and not decoded", x);
    }

    /** "(What was decoded stays.)" */
    private static void patchLeavesThePicture() {
        int[] file = goodFile();
        StillPicture x = decoded("patch", file);
        int[] before = Answers.of(x);
        for (int k = 0; k < file.length; k++) {
            check.due("patch " + k, file[k], x.patch(k, 255 - file[k]));
        }
        Answers.same(check, "each byte patched", before, Answers.of(x));
        check.due("patched: decode", StillPicture.BOXES, x.decode());
        dueNone("patched and decoded", x);
    }

    /** "(What was decoded stays.)" */
    private static void clearLeavesThePicture() {
        StillPicture x = decoded("clear", goodFile());
        int[] before = Answers.of(x);
        x.clear();
        check.due("clear: size", 0, x.size());
        Answers.same(check, "cleared", before, Answers.of(x));
        x.clear();
        Answers.same(check, "cleared twice", before, Answers.of(x));
        check.due("cleared: decode", StillPicture.BRAND, x.decode());
        dueNone("cleared and decoded", x);
    }

    private static void addLeavesThePicture() {
        int[] file = goodFile();
        StillPicture x = decoded("add", file);
        int[] before = Answers.of(x);
        for (int i = file.length; i < 240; i++) {
            check.due("add at " + i, true, x.add(1));
        }
        Answers.same(check, "bytes added", before, Answers.of(x));
        check.due("add at 240", false, x.add(1));
        Answers.same(check, "no byte added", before, Answers.of(x));
        // The last box goes to the end of the file, and nothing behind the frame is looked at.
        check.due("bytes added: decode", StillPicture.FINE, x.decode());
        Answers.same(check, "bytes added and decoded", before, Answers.of(x));
    }

    private static void wordLeavesThePicture() {
        int[] file = goodFile();
        StillPicture x = decoded("word", file);
        int[] before = Answers.of(x);
        while (x.size() <= 236) {
            check.due("word at " + x.size(), true, x.word(-1));
        }
        Answers.same(check, "words added", before, Answers.of(x));
        check.due("word, full", false, x.word(-1));
        Answers.same(check, "no word added", before, Answers.of(x));
        x.clear();
        x.word(0x02666666);
        Answers.same(check, "cleared and a word added", before, Answers.of(x));
        check.due("a word alone: decode", StillPicture.BOXES, x.decode());
        dueNone("a word alone", x);
    }

    /** "false, changing nothing", "-1, changing nothing" */
    private static void refusedCallsLeaveThePictureAndTheFile() {
        int[] file = FileMaker.join(goodFile(), new int[240]);
        file = java.util.Arrays.copyOf(file, 240);
        StillPicture x = decoded("refused", file);
        int[] before = Answers.of(x);
        check.due("add to a full file", false, x.add(7));
        check.due("add what is no byte", false, x.add(256));
        check.due("word to a full file", false, x.word(7));
        check.due("patch before the file", -1, x.patch(-1, 7));
        check.due("patch behind the file", -1, x.patch(240, 7));
        check.due("patch to -1", -1, x.patch(5, -1));
        check.due("patch to 256", -1, x.patch(5, 256));
        check.due("refused: size", 240, x.size());
        Answers.same(check, "refused", before, Answers.of(x));
        check.due("refused: decode", StillPicture.FINE, x.decode());
        Answers.same(check, "refused and decoded", before, Answers.of(x));
        for (int k = 0; k < 240; k++) {
            check.due("refused: byte " + k, file[k], x.patch(k, file[k]));
        }
    }

    private static void questionsChangeNothing() {
        int[] file = goodFile();
        StillPicture x = decoded("questions", file);
        int[] before = Answers.of(x);
        x.sample(-1, -1, -1);
        x.sample(3, 16, 16);
        x.block(-1, 99, 7);
        x.table(19, 16);
        check.due("questions: size", file.length, x.size());
        Answers.same(check, "questions", before, Answers.of(x));
    }

    /** A file that ends with each code but FINE, which stands at its place 0. */
    private static int[][] filesByCode() {
        FileMaker absent = new FileMaker();
        absent.chosen = FileMaker.box('p');
        FileMaker extent = new FileMaker();
        extent.places = FileMaker.box('l', FileMaker.list(1, 7, 1, 255, 1));
        FileMaker feature = new FileMaker();
        feature.data = FileMaker.list(4);
        FileMaker mismatch = new FileMaker();
        mismatch.props = FileMaker.box('r', FileMaker.box('s', FileMaker.list(8, 7)), mismatch.colourBox(), mismatch.linkBox(1, 2));
        FileMaker stream = new FileMaker();
        stream.data = new int[0];
        // The first unit is read whole, the second one has a difference that is too great.
        FileMaker data = new FileMaker();
        TileWriter tile = new TileWriter(false).symbol(0, 0).symbol(2, 0).none(0);
        tile.symbol(8, 0).symbol(11, 0).symbol(13, 3);
        for (int i = 0; i < 13; i++) {
            tile.bit(0);
        }
        data.tile = tile.bytes();
        return new int[][] {
            goodFile(), {1}, {2, 'z'}, absent.build(), extent.build(), feature.build(), mismatch.build(), stream.build(), data.build(),
        };
    }

    /** "When that is FINE, what the questions below ask about is this picture, otherwise there is none." */
    private static void eachCodeLeavesNoPicture() {
        int[][] files = filesByCode();
        for (int code = 1; code <= 8; code++) {
            String what = "code " + code;
            StillPicture x = decoded(what, files[0]);
            int[] before = Answers.of(x);
            load(x, files[code]);
            Answers.same(check, what + " loaded", before, Answers.of(x));
            check.due(what + ": decode", code, x.decode());
            dueNone(what, x);
            check.due(what + ": decode again", code, x.decode());
            dueNone(what + " again", x);
            load(x, files[0]);
            dueNone(what + ", good file loaded", x);
            check.due(what + ", good file", StillPicture.FINE, x.decode());
            Answers.same(check, what + ", good file", before, Answers.of(x));
        }
    }

    private static void decodingLeavesTheFile() {
        for (int[] file : filesByCode()) {
            StillPicture x = new StillPicture();
            load(x, file);
            x.decode();
            check.due("decoded: size", file.length, x.size());
            for (int k = 0; k < file.length; k++) {
                check.due("decoded: byte " + k, file[k], x.patch(k, file[k]));
            }
        }
    }

    private static void aSmallPictureBehindAGreatOne() {
        FileMaker great = new FileMaker();
        great.layout = 1;
        great.ten = 1;
        great.width = 16;
        great.height = 16;
        great.tile = new int[60];
        java.util.Arrays.fill(great.tile, 255);
        StillPicture x = decoded("great", great.build());
        check.due("great: planes", 3, x.planes());
        check.due("great: depth", 10, x.depth());
        check.due("great: blocks", 16, x.blocks());
        check.due("great: mode", 5, x.block(15, 15, 1));
        check.due("great: colour mode", 6, x.block(0, 0, 2));
        check.due("great: last sample", 512, x.sample(2, 15, 15));
        FileMaker small = new FileMaker();
        small.width = 1;
        small.height = 1;
        load(x, small.build());
        check.due("small: decode", StillPicture.FINE, x.decode());
        check.due("small: planes", 1, x.planes());
        check.due("small: width", 1, x.width());
        check.due("small: height", 1, x.height());
        check.due("small: depth", 8, x.depth());
        check.due("small: blocks", 1, x.blocks());
        check.due("small: sample", 128, x.sample(0, 0, 0));
        check.due("small: no sample to the right", -1, x.sample(0, 1, 0));
        check.due("small: no sample below", -1, x.sample(0, 0, 1));
        check.due("small: no plane 1", -1, x.sample(1, 0, 0));
        check.due("small: size of the block", 16, x.block(0, 0, 0));
        check.due("small: mode", 0, x.block(0, 0, 1));
        check.due("small: colour mode", 0, x.block(0, 0, 2));
        check.due("small: no block to the right", -1, x.block(1, 0, 0));
        check.due("small: COLOUR was not read", 32768 / 7, x.table(6, 0));
    }

    /** "They are at first as told at each decoding." */
    private static void eachDecodingBeginsAnew() {
        StillPicture x = decoded("anew", goodFile());
        int[] before = Answers.of(x);
        for (int turn = 0; turn < 5; turn++) {
            check.due("anew: decode", StillPicture.FINE, x.decode());
            Answers.same(check, "anew", before, Answers.of(x));
        }
    }

    private static void twoObjectsShareNothing() {
        StillPicture x = decoded("first", goodFile());
        int[] before = Answers.of(x);
        StillPicture y = new StillPicture();
        check.due("second: size", 0, y.size());
        dueNone("second", y);
        load(y, new FileMaker().build());
        check.due("second: decode", StillPicture.FINE, y.decode());
        Answers.same(check, "first beside second", before, Answers.of(x));
        y.clear();
        check.due("first: size", goodFile().length, x.size());
        check.due("first: decode", StillPicture.FINE, x.decode());
        Answers.same(check, "first decoded beside second", before, Answers.of(x));
    }

    /** "An object is used for at most 512 calls after it has been made." */
    private static void theLastCallThatIsPromised() {
        int[] file = goodFile();
        StillPicture x = new StillPicture();
        int calls = 0;
        for (int b : file) {
            x.add(b);
            calls++;
        }
        while (calls < 511) {
            check.due("call " + calls, StillPicture.FINE, x.decode());
            calls++;
        }
        StillPicture fresh = decoded("fresh", file);
        check.due("call 512", fresh.sample(2, 2, 3), x.sample(2, 2, 3));
    }
}
