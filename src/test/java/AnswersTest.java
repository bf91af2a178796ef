/** Promises 8 to 17: what the questions answer inside a picture, at its ends, and outside it. */
public final class AnswersTest {
    private static final Check check = new Check();
    private static final int[] SIZES = {2, 2, 6, 6, 6, 6, 7, 7, 2, 2, 4, 16, 16, 4, 4, 4, 4, 4, 4};
    private static final int[] FAR = {Integer.MIN_VALUE, -256, -17, 17, 255, 256, 1 << 20, Integer.MAX_VALUE};

    public static void main(String[] args) {
        int[][] shapes = {{1, 1, 0, 0}, {16, 16, 1, 1}, {16, 1, 0, 1}, {1, 16, 1, 0}, {5, 3, 1, 1}, {4, 8, 0, 0}};
        for (int[] shape : shapes) {
            FileMaker made = new FileMaker();
            made.width = shape[0];
            made.height = shape[1];
            made.layout = shape[2];
            made.ten = shape[3];
            measures(made);
            samples(made);
            blocks(made);
            tables(made);
        }
        farAway();
        nothingWithoutAPicture();
        check.end();
    }

    /** A new object for each row of questions, as none is used for more than 512 calls. */
    private static StillPicture fine(FileMaker made) {
        StillPicture x = FileMaker.load(made.build());
        check.due("decode", StillPicture.FINE, x.decode());
        return x;
    }

    private static String nameOf(FileMaker made) {
        return made.width + " times " + made.height + ": ";
    }

    private static void measures(FileMaker made) {
        StillPicture x = fine(made);
        String what = nameOf(made);
        check.due(what + "planes", made.layout == 1 ? 3 : 1, x.planes());
        check.due(what + "width", made.width, x.width());
        check.due(what + "height", made.height, x.height());
        check.due(what + "depth", made.ten == 1 ? 10 : 8, x.depth());
        check.due(what + "blocks", 1, x.blocks());
        int units = (made.width + 3) / 4 * ((made.height + 3) / 4);
        check.due(what + "symbols", made.layout == 1 ? 3 + 12 * units : 2 + 4 * units, x.symbols());
        check.due(what + "taken", true, x.taken() > 15);
    }

    /** "-1 when there is no picture, no such plane, or x, y is not in the picture" */
    private static void samples(FileMaker made) {
        int planes = made.layout == 1 ? 3 : 1;
        for (int p = -2; p <= 4; p++) {
            StillPicture x = fine(made);
            for (int px = -1; px <= 16; px++) {
                for (int py = -1; py <= 16; py++) {
                    boolean is = p >= 0 && p < planes && px >= 0 && px < made.width && py >= 0 && py < made.height;
                    check.due(nameOf(made) + "sample " + p + " " + px + " " + py, is, x.sample(p, px, py) != -1);
                }
            }
        }
    }

    /** "-1 when there is no picture, x, y is not in it, or w is not 0 .. 3" */
    private static void blocks(FileMaker made) {
        int[] told = {16, 0, 0, 0};
        for (int w = -2; w <= 5; w++) {
            StillPicture x = fine(made);
            for (int px = -1; px <= 16; px++) {
                for (int py = -1; py <= 16; py++) {
                    boolean is = w >= 0 && w <= 3 && px >= 0 && px < made.width && py >= 0 && py < made.height;
                    check.due(nameOf(made) + "block " + px + " " + py + " " + w, is ? told[w] : -1, x.block(px, py, w));
                }
            }
        }
    }

    /** "-1 when there is no picture, t is not 0 .. 18 or i is not 0 .. n - 1" */
    private static void tables(FileMaker made) {
        for (int t = -2; t <= 21; t++) {
            StillPicture x = fine(made);
            int n = t >= 0 && t < 19 ? SIZES[t] : 0;
            for (int i = -2; i <= 33; i++) {
                String what = nameOf(made) + "table " + t + " " + i;
                int got = x.table(t, i);
                check.due(what, i >= 0 && i < n, got != -1);
                if (i == n - 1 && n > 0) {
                    check.due(what + ", the last", 32768, got);
                }
            }
        }
    }

    private static void farAway() {
        FileMaker made = new FileMaker();
        made.layout = 1;
        StillPicture x = fine(made);
        for (int far : FAR) {
            check.due("sample of plane " + far, -1, x.sample(far, 0, 0));
            check.due("sample at x " + far, -1, x.sample(0, far, 0));
            check.due("sample at y " + far, -1, x.sample(0, 0, far));
            check.due("sample at all " + far, -1, x.sample(far, far, far));
            check.due("block at x " + far, -1, x.block(far, 0, 0));
            check.due("block at y " + far, -1, x.block(0, far, 0));
            check.due("block, w " + far, -1, x.block(0, 0, far));
            check.due("table " + far, -1, x.table(far == 17 ? 19 : far, 0));
            check.due("table 11, i " + far, -1, x.table(11, far));
        }
    }

    private static void nothingWithoutAPicture() {
        for (int turn = 0; turn < 2; turn++) {
            StillPicture x = new StillPicture();
            if (turn == 1) {
                check.due("no file", StillPicture.BRAND, x.decode());
            }
            Answers.same(check, "no picture", Answers.none(), Answers.of(x));
            for (int far : FAR) {
                check.due("no picture: sample", -1, x.sample(far, far, far));
                check.due("no picture: block", -1, x.block(far, far, far));
                check.due("no picture: table", -1, x.table(far, far));
            }
            for (int t = 0; t < 19; t++) {
                check.due("no picture: table " + t, -1, x.table(t, 0));
            }
            for (int w = 0; w < 4; w++) {
                check.due("no picture: block " + w, -1, x.block(0, 0, w));
            }
        }
    }
}
