/** Promises 1 to 6: the new object, and the bytes of the file. No object is used for more than 512 calls. */
public final class FileTest {
    private static final Check check = new Check();

    public static void main(String[] args) {
        newObject();
        addRefusesWhatIsNoByte();
        addStopsAt240();
        wordAppendsHighestFirst();
        wordsOfAllKinds();
        wordNeedsRoomForFour();
        bytesFitWhereAWordDoesNot();
        patchChangesOneByte();
        patchRefuses();
        patchAtTheEndsOfTheFile();
        clearAFullFile();
        clearEmptiesTheFile();
        check.end();
    }

    private static void newObject() {
        StillPicture x = new StillPicture();
        check.due("new: size", 0, x.size());
        check.due("new: planes", 0, x.planes());
        check.due("new: width", 0, x.width());
        check.due("new: height", 0, x.height());
        check.due("new: depth", 0, x.depth());
        check.due("new: sample", -1, x.sample(0, 0, 0));
        check.due("new: block", -1, x.block(0, 0, 0));
        check.due("new: blocks", 0, x.blocks());
        check.due("new: symbols", 0, x.symbols());
        check.due("new: taken", 0, x.taken());
        check.due("new: table", -1, x.table(0, 0));
        check.due("new: patch", -1, x.patch(0, 0));
        check.due("new: decode", StillPicture.BRAND, x.decode());
    }

    /** "false, changing nothing, when b is not 0 .. 255" */
    private static void addRefusesWhatIsNoByte() {
        StillPicture x = new StillPicture();
        int[] wrong = {-1, 256, -256, 1000, Integer.MIN_VALUE, Integer.MAX_VALUE};
        for (int b : wrong) {
            check.due("add no byte " + b, false, x.add(b));
        }
        check.due("add no byte: size", 0, x.size());
        check.due("add 0", true, x.add(0));
        check.due("add 255", true, x.add(255));
        check.due("add: size", 2, x.size());
        check.due("add: first", 0, x.patch(0, 1));
        check.due("add: second", 255, x.patch(1, 1));
    }

    /** "false, changing nothing, when .. 240 bytes are there" */
    private static void addStopsAt240() {
        StillPicture x = new StillPicture();
        for (int i = 0; i < 240; i++) {
            check.due("add " + i, true, x.add(i));
        }
        check.due("add 240", false, x.add(7));
        check.due("add no byte to a full file", false, x.add(-1));
        check.due("full: size", 240, x.size());
        for (int i = 0; i < 240; i++) {
            check.due("full: byte " + i, i, x.patch(i, 0));
        }
    }

    private static void wordAppendsHighestFirst() {
        StillPicture x = new StillPicture();
        check.due("word", true, x.word(0x01fe80ff));
        check.due("word below 0", true, x.word(-2));
        check.due("word: size", 8, x.size());
        int[] want = {0x01, 0xfe, 0x80, 0xff, 0xff, 0xff, 0xff, 0xfe};
        for (int i = 0; i < want.length; i++) {
            check.due("word: byte " + i, want[i], x.patch(i, 0));
        }
    }

    private static void wordsOfAllKinds() {
        int[] words = {0, -1, 1, 255, 256, Integer.MIN_VALUE, Integer.MAX_VALUE, 0x80000001, 0x00ff0000};
        StillPicture x = new StillPicture();
        for (int i = 0; i < words.length; i++) {
            check.due("word " + words[i], true, x.word(words[i]));
            check.due("word " + words[i] + ": size", 4 * i + 4, x.size());
        }
        for (int i = 0; i < words.length; i++) {
            for (int j = 0; j < 4; j++) {
                int want = (words[i] >>> (24 - 8 * j)) & 255;
                check.due("word " + words[i] + ": byte " + j, want, x.patch(4 * i + j, want));
            }
        }
    }

    /** "false, changing nothing, when more than 236 bytes are there" */
    private static void wordNeedsRoomForFour() {
        for (int there = 230; there <= 240; there++) {
            StillPicture x = new StillPicture();
            for (int i = 0; i < there; i++) {
                x.add(i % 200 + 1);
            }
            boolean isTaken = there <= 236;
            String what = "word at " + there;
            check.due(what, isTaken, x.word(0x0fe0cb0a));
            check.due(what + ": size", isTaken ? there + 4 : there, x.size());
            int[] more = {0x0f, 0xe0, 0xcb, 0x0a};
            for (int i = 0; i < there; i++) {
                check.due(what + ": byte " + i, i % 200 + 1, x.patch(i, 0));
            }
            for (int i = 0; i < 4; i++) {
                check.due(what + ": more " + i, isTaken ? more[i] : -1, x.patch(there + i, 0));
            }
        }
    }

    /** A refused word leaves the room that there is to bytes. */
    private static void bytesFitWhereAWordDoesNot() {
        StillPicture x = new StillPicture();
        for (int i = 0; i < 59; i++) {
            x.word(i);
        }
        for (int there = 236; there < 240; there++) {
            check.due("add at " + there, true, x.add(there));
            check.due("word behind it", false, x.word(0));
            check.due("size behind it", there + 1, x.size());
        }
        check.due("add at 240", false, x.add(1));
        for (int k = 236; k < 240; k++) {
            check.due("byte " + k, k, x.patch(k, 1));
        }
    }

    private static void patchChangesOneByte() {
        StillPicture x = new StillPicture();
        x.word(0x01020304);
        check.due("patch", 3, x.patch(2, 255));
        check.due("patch again", 255, x.patch(2, 0));
        check.due("patched to 0", 0, x.patch(2, 9));
        check.due("others stay 0", 1, x.patch(0, 1));
        check.due("others stay 1", 2, x.patch(1, 2));
        check.due("others stay 3", 4, x.patch(3, 4));
        check.due("patch: size", 4, x.size());
    }

    /** "-1, changing nothing, when there is no byte k or b is not 0 .. 255" */
    private static void patchRefuses() {
        StillPicture x = new StillPicture();
        x.word(0x01020304);
        int[] noPlace = {-1, 4, 239, 240, Integer.MIN_VALUE, Integer.MAX_VALUE};
        for (int k : noPlace) {
            check.due("patch at " + k, -1, x.patch(k, 1));
        }
        int[] noByte = {-1, 256, Integer.MIN_VALUE, Integer.MAX_VALUE};
        for (int b : noByte) {
            check.due("patch to " + b, -1, x.patch(1, b));
            check.due("patch to " + b + ", where there is no byte", -1, x.patch(4, b));
        }
        check.due("patch refused: size", 4, x.size());
        for (int k = 0; k < 4; k++) {
            check.due("patch refused changes nothing", k + 1, x.patch(k, k + 1));
        }
    }

    private static void patchAtTheEndsOfTheFile() {
        StillPicture x = new StillPicture();
        check.due("empty: patch 0", -1, x.patch(0, 1));
        check.due("empty: size", 0, x.size());
        for (int size = 1; size <= 240; size++) {
            x.add(9);
            if (size < 20 || size > 220) {
                check.due("size " + size + ": size", size, x.size());
                check.due("size " + size + ": no byte behind the last", -1, x.patch(size, 1));
                check.due("size " + size + ": the last", 9, x.patch(size - 1, 255));
            }
        }
        check.due("full: the first", 255, x.patch(0, 0));
        check.due("full: the last", 255, x.patch(239, 0));
        check.due("full: none before the first", -1, x.patch(-1, 0));
        check.due("full: the first to 255", 0, x.patch(0, 255));
        check.due("full: the last to 1", 0, x.patch(239, 1));
        check.due("full: size", 240, x.size());
    }

    private static void clearAFullFile() {
        StillPicture x = new StillPicture();
        for (int i = 0; i < 60; i++) {
            x.word(-1);
        }
        x.clear();
        check.due("full, cleared: size", 0, x.size());
        check.due("full, cleared: no byte 0", -1, x.patch(0, 1));
        check.due("full, cleared: no byte 239", -1, x.patch(239, 1));
        check.due("full, cleared: add", true, x.add(3));
        check.due("full, cleared: no byte 1", -1, x.patch(1, 1));
        for (int i = 1; i < 240; i++) {
            check.due("filled again", true, x.add(i));
        }
        check.due("full again", false, x.add(1));
        check.due("full again: first", 3, x.patch(0, 3));
        check.due("full again: last", 239, x.patch(239, 3));
    }

    private static void clearEmptiesTheFile() {
        StillPicture x = new StillPicture();
        x.word(0x01020304);
        x.clear();
        check.due("clear: size", 0, x.size());
        check.due("clear: patch", -1, x.patch(0, 1));
        check.due("clear: add", true, x.add(9));
        check.due("clear: first", 9, x.patch(0, 9));
        x.clear();
        x.clear();
        check.due("clear twice: size", 0, x.size());
        check.due("clear: decode", StillPicture.BRAND, x.decode());
    }
}
