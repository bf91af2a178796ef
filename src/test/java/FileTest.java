/** Promises 1 to 6: the new object, and the bytes of the file. */
public final class FileTest {
    private static final Check check = new Check();

    public static void main(String[] args) {
        newObject();
        addRefusesWhatIsNoByte();
        addStopsAt240();
        wordAppendsHighestFirst();
        wordNeedsRoomForFour();
        patchChangesOneByte();
        patchRefuses();
        clearEmptiesTheFile();
        check.end();
    }

    private static void newObject() {
        StillPicture x = new StillPicture();
        check.due("new: size", 0, x.size());
        check.due("new: planes", 0, x.planes());
        check.due("new: width", 0, x.width());
        check.due("new: height", 0, x.height());
        check.due("new: depth", 0, x.depth());
        check.due("new: sample", -1, x.sample(0, 0, 0));
        check.due("new: block", -1, x.block(0, 0, 0));
        check.due("new: blocks", 0, x.blocks());
        check.due("new: symbols", 0, x.symbols());
        check.due("new: taken", 0, x.taken());
        check.due("new: table", -1, x.table(0, 0));
        check.due("new: patch", -1, x.patch(0, 0));
        check.due("new: decode", StillPicture.BRAND, x.decode());
    }

    private static void addRefusesWhatIsNoByte() {
        StillPicture x = new StillPicture();
        int[] wrong = {-1, 256, -256, 1000, Integer.MIN_VALUE, Integer.MAX_VALUE};
        for (int b : wrong) {
            check.due("add no byte " + b, false, x.add(b));
        }
        check.due("add no byte: size", 0, x.size());
        check.due("add 0", true, x.add(0));
        check.due("add 255", true, x.add(255));
        check.due("add: size", 2, x.size());
        check.due("add: first", 0, x.patch(0, 1));
        check.due("add: second", 255, x.patch(1, 1));
    }

    private static void addStopsAt240() {
        StillPicture x = new StillPicture();
        for (int i = 0; i < 240; i++) {
            check.due("add " + i, true, x.add(i));
        }
        check.due("add 240", false, x.add(7));
        check.due("full: size", 240, x.size());
        for (int i = 0; i < 240; i++) {
            check.due("full: byte " + i, i, x.patch(i, 0));
        }
    }

    private static void wordAppendsHighestFirst() {
        StillPicture x = new StillPicture();
        check.due("word", true, x.word(0x01fe80ff));
        check.due("word below 0", true, x.word(-2));
        check.due("word: size", 8, x.size());
        int[] want = {0x01, 0xfe, 0x80, 0xff, 0xff, 0xff, 0xff, 0xfe};
        for (int i = 0; i < want.length; i++) {
            check.due("word: byte " + i, want[i], x.patch(i, 0));
        }
    }

    private static void wordNeedsRoomForFour() {
        StillPicture x = new StillPicture();
        for (int i = 0; i < 59; i++) {
            check.due("word " + i, true, x.word(i));
        }
        check.due("236 there", 236, x.size());
        check.due("237 there", true, x.add(5));
        check.due("word at 237", false, x.word(1));
        check.due("word at 237: size", 237, x.size());
        StillPicture y = new StillPicture();
        for (int i = 0; i < 60; i++) {
            check.due("word " + i, true, y.word(-i));
        }
        check.due("word at 240", false, y.word(1));
        check.due("word at 240: size", 240, y.size());
    }

    private static void patchChangesOneByte() {
        StillPicture x = new StillPicture();
        x.word(0x01020304);
        check.due("patch", 3, x.patch(2, 255));
        check.due("patch again", 255, x.patch(2, 0));
        check.due("patched to 0", 0, x.patch(2, 9));
        check.due("others stay 0", 1, x.patch(0, 1));
        check.due("others stay 1", 2, x.patch(1, 2));
        check.due("others stay 3", 4, x.patch(3, 4));
        check.due("patch: size", 4, x.size());
    }

    private static void patchRefuses() {
        StillPicture x = new StillPicture();
        x.word(0x01020304);
        int[] noPlace = {-1, 4, 239, 240, Integer.MIN_VALUE, Integer.MAX_VALUE};
        for (int k : noPlace) {
            check.due("patch at " + k, -1, x.patch(k, 1));
        }
        int[] noByte = {-1, 256, Integer.MIN_VALUE, Integer.MAX_VALUE};
        for (int b : noByte) {
            check.due("patch to " + b, -1, x.patch(1, b));
        }
        check.due("patch refused changes nothing", 2, x.patch(1, 2));
        check.due("patch refused: size", 4, x.size());
    }

    private static void clearEmptiesTheFile() {
        StillPicture x = new StillPicture();
        x.word(0x01020304);
        x.clear();
        check.due("clear: size", 0, x.size());
        check.due("clear: patch", -1, x.patch(0, 1));
        check.due("clear: add", true, x.add(9));
        check.due("clear: first", 9, x.patch(0, 9));
        x.clear();
        x.clear();
        check.due("clear twice: size", 0, x.size());
        check.due("clear: decode", StillPicture.BRAND, x.decode());
    }
}
