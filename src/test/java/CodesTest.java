/** Promise 7: the codes in their order. A file has a fault in each step, and they are mended one after the other. */
public final class CodesTest {
    private static final Check check = new Check();
    /** The code of each fault, in the order in which the document tells them. */
    private static final int[] CODES = {
        StillPicture.BOXES, StillPicture.BRAND, StillPicture.ABSENT, StillPicture.ABSENT, StillPicture.EXTENT,
        StillPicture.FEATURE, StillPicture.ABSENT, StillPicture.STREAM, StillPicture.FEATURE, StillPicture.MISMATCH,
        StillPicture.STREAM, StillPicture.FEATURE, StillPicture.DATA,
    };
    private static final int BOX_OF_ONE = 0;
    private static final int NO_BRAND = 1;
    private static final int EMPTY_P = 2;
    private static final int EMPTY_L = 3;
    private static final int LONG_EXTENT = 4;
    private static final int NEEDED = 5;
    private static final int SHORT_S = 6;
    private static final int GREAT_HEAD = 7;
    private static final int LAYOUT = 8;
    private static final int OTHER_WIDTH = 9;
    private static final int SHORT_FRAME = 10;
    private static final int FRAME_BIT = 11;
    private static final int GREAT_DIFFERENCE = 12;

    public static void main(String[] args) {
        plainFiles();
        firstFaultIsTold();
        oneFaultIsTold();
        check.end();
    }

    private static int[] list(int... bytes) {
        return bytes;
    }

    private static void plainFiles() {
        for (int kind = 0; kind < 16; kind++) {
            FileMaker made = new FileMaker();
            made.layout = kind & 1;
            made.ten = (kind >> 1) & 1;
            made.soft = (kind >> 2) & 1;
            made.withExtra = kind >= 8;
            check.due("plain file " + kind, StillPicture.FINE, FileMaker.load(made.build()).decode());
        }
    }

    /** "ends with the code told at the first thing that is not as it should be there" */
    private static void firstFaultIsTold() {
        for (int mended = 0; mended <= CODES.length; mended++) {
            boolean[] has = new boolean[CODES.length];
            for (int fault = mended; fault < CODES.length; fault++) {
                has[fault] = true;
            }
            int want = mended == CODES.length ? StillPicture.FINE : CODES[mended];
            int[] file = faulty(has);
            check.due(mended + " faults mended", want, FileMaker.load(file).decode());
            StillPicture used = FileMaker.load(new FileMaker().build());
            check.due("a plain file", StillPicture.FINE, used.decode());
            used.clear();
            for (int b : file) {
                used.add(b);
            }
            check.due(mended + " faults mended, behind a plain file", want, used.decode());
            check.due(mended + " faults mended: width", want == StillPicture.FINE ? 8 : 0, used.width());
        }
    }

    private static void oneFaultIsTold() {
        for (int fault = 0; fault < CODES.length; fault++) {
            boolean[] has = new boolean[CODES.length];
            has[fault] = true;
            check.due("fault " + fault + " alone", CODES[fault], FileMaker.load(faulty(has)).decode());
        }
    }

    private static int[] faulty(boolean[] has) {
        FileMaker made = new FileMaker();
        made.more = has[BOX_OF_ONE] ? list(1, 'z') : list();
        made.brand = has[NO_BRAND] ? list(3, 'f', 'w') : list(3, 'f', 'v');
        made.chosen = FileMaker.box('p', has[EMPTY_P] ? list() : list(7));
        made.props = FileMaker.box('r', FileMaker.box('s', has[SHORT_S] ? list(8) : list(8, 8)), FileMaker.box('c', list(0)),
            FileMaker.box('z'), FileMaker.box('a', has[NEEDED] ? list(7, 3, 1, 2, 131) : list(7, 3, 1, 2, 3)));
        made.tile = has[GREAT_DIFFERENCE] ? greatDifference() : list();
        made.data = data(made, has);
        int start = has[EMPTY_L] ? 0 : offsetOfData(made);
        int length = made.data.length;
        made.places = has[EMPTY_L] ? FileMaker.box('l')
            : FileMaker.box('l', list(1, 7, 1, start, has[LONG_EXTENT] ? 255 : length));
        return made.build();
    }

    private static int[] data(FileMaker made, boolean[] has) {
        int width = has[OTHER_WIDTH] ? 8 : 7;
        int[] sequence = FileMaker.bits(0, has[LAYOUT] ? 3 : 0, 2, 0, 1, width, 4, 7, 4, 0, 2, 0, 1);
        int[] bits = has[FRAME_BIT] ? list(0x20, 0) : list(0, 0);
        int[] frame = has[SHORT_FRAME] ? FileMaker.unit(6, list(0)) : FileMaker.unit(6, bits, made.tile);
        return FileMaker.join(has[GREAT_HEAD] ? list(128) : list(18, 0), FileMaker.unit(1, sequence), frame);
    }

    private static int offsetOfData(FileMaker made) {
        made.places = FileMaker.box('l', list(1, 7, 1, 0, 0));
        return made.build().length - made.data.length;
    }

    private static int[] greatDifference() {
        TileWriter tile = new TileWriter(false).symbol(0, 0).symbol(2, 0).symbol(8, 0).symbol(11, 0).symbol(13, 3);
        for (int i = 0; i < 13; i++) {
            tile.bit(0);
        }
        return tile.bytes();
    }
}
