/**
 * FILTERED, at its edges. The pictures are painted sample by sample; what is due was worked out from
 * the document by a small script, apart from the program.
 */
public final class FilterTest {
    private static final Check check = new Check();

    /** LEVEL, TEN, p1, p0, q0, q1, and what p0 and q0 become. */
    private static final int[][] EDGES = {
        {0, 0, 128, 128, 129, 129, 128, 129},
        {0, 0, 200, 128, 128, 50, 128, 128},
        {1, 0, 128, 128, 128, 128, 128, 128},
        {1, 0, 128, 128, 129, 129, 128, 129},
        {1, 0, 128, 128, 130, 130, 129, 129},
        {1, 0, 129, 129, 128, 128, 129, 128},
        {1, 0, 130, 130, 128, 128, 130, 128},
        {1, 0, 128, 128, 132, 132, 129, 131},
        {1, 0, 128, 128, 133, 133, 128, 133},
        {1, 0, 132, 132, 128, 128, 131, 129},
        {1, 0, 133, 133, 128, 128, 133, 128},
        {1, 0, 200, 128, 128, 50, 129, 127},
        {1, 0, 50, 128, 128, 200, 127, 129},
        {4, 0, 200, 128, 128, 50, 132, 124},
        {4, 0, 50, 128, 128, 200, 124, 132},
        {7, 0, 200, 128, 128, 50, 135, 121},
        {7, 0, 50, 128, 128, 200, 121, 135},
        {7, 0, 128, 128, 156, 156, 135, 149},
        {7, 0, 128, 128, 157, 157, 128, 157},
        {7, 0, 156, 156, 128, 128, 149, 135},
        {7, 0, 157, 157, 128, 128, 157, 128},
        {7, 0, 255, 254, 254, 0, 255, 247},
        {7, 0, 0, 1, 1, 255, 0, 8},
        {7, 0, 255, 255, 255, 0, 255, 248},
        {7, 0, 0, 0, 0, 255, 0, 7},
        {7, 0, 255, 3, 3, 0, 10, 0},
        {7, 0, 0, 252, 252, 255, 245, 255},
        {2, 0, 128, 128, 128, 124, 129, 127},
        {2, 0, 128, 128, 128, 125, 128, 128},
        {2, 0, 128, 128, 128, 132, 128, 128},
        {2, 0, 128, 128, 128, 133, 127, 129},
        {2, 0, 124, 128, 128, 128, 128, 128},
        {2, 0, 123, 128, 128, 128, 127, 129},
        {2, 0, 128, 128, 128, 141, 126, 130},
        {2, 0, 128, 128, 128, 115, 130, 126},
        {1, 1, 512, 512, 528, 528, 516, 524},
        {1, 1, 512, 512, 529, 529, 512, 529},
        {1, 1, 528, 528, 512, 512, 524, 516},
        {1, 1, 529, 529, 512, 512, 529, 512},
        {1, 1, 700, 512, 512, 300, 516, 508},
        {1, 1, 300, 512, 512, 700, 508, 516},
        {7, 1, 512, 512, 624, 624, 540, 596},
        {7, 1, 512, 512, 625, 625, 512, 625},
        {7, 1, 1000, 1000, 1000, 600, 1023, 972},
        {7, 1, 600, 1000, 1000, 1000, 972, 1023},
        {7, 1, 900, 1020, 1020, 300, 1023, 992},
        {7, 1, 0, 5, 5, 900, 0, 33},
    };

    /** By STRENGTH from 1 on: what 128 and 128 + d become, for d from 0 on. */
    private static final int[][][] SOFTENED = {
        {{128, 128}, {128, 129}, {129, 130}, {129, 130}, {129, 132}, {129, 133}, {128, 134}, {128, 135}, {128, 136},
            {128, 137}, {128, 138}, {128, 139}, {128, 140}, {128, 141}, {128, 142}, {128, 143}},
        {{128, 128}, {128, 129}, {129, 130}, {129, 130}, {129, 131}, {129, 132}, {129, 133}, {129, 134}, {129, 135},
            {129, 136}, {129, 137}, {129, 138}, {129, 140}, {129, 141}, {128, 142}, {128, 143}, {128, 144}, {128, 145},
            {128, 146}, {128, 147}},
        {{128, 128}, {128, 129}, {129, 130}, {129, 130}, {129, 131}, {129, 132}, {130, 133}, {130, 133}, {130, 134},
            {130, 135}, {130, 136}, {130, 137}, {130, 139}, {130, 140}, {129, 141}, {129, 142}, {129, 143}, {129, 144},
            {129, 145}, {129, 146}, {129, 148}, {129, 149}, {128, 150}, {128, 151}, {128, 152}, {128, 153}, {128, 154}},
    };

    /** At 10 bits: STRENGTH, d, and what 512 and 512 + d become, less 512. */
    private static final int[][] SOFTENED_TEN = {
        {1, 15, 2, 13}, {1, 16, 2, 14}, {1, 20, 2, 19}, {1, 31, 0, 31}, {1, 34, 0, 34},
        {2, 20, 5, 15}, {2, 33, 4, 29}, {2, 47, 2, 45}, {2, 49, 2, 47}, {2, 64, 0, 64}, {2, 66, 0, 66},
        {3, 31, 8, 23}, {3, 49, 6, 43}, {3, 66, 4, 62}, {3, 96, 0, 96}, {3, 98, 0, 98},
    };

    private static final int[][] ANY = {
        {130, 124, 126, 131, 135, 132, 130, 127},
        {132, 132, 126, 124, 119, 129, 120, 122},
        {125, 132, 135, 134, 122, 132, 125, 130},
        {126, 131, 122, 137, 120, 131, 129, 126},
        {130, 124, 132, 129, 127, 128, 134, 129},
        {124, 126, 120, 133, 129, 126, 121, 134},
        {130, 128, 121, 128, 123, 129, 135, 134},
        {124, 134, 125, 131, 133, 127, 137, 119},
    };
    private static final int[][] ANY_SMOOTHED = {
        {130, 124, 126, 132, 134, 132, 130, 127},
        {132, 132, 126, 122, 121, 129, 120, 122},
        {125, 132, 135, 130, 126, 132, 125, 130},
        {128, 129, 128, 130, 126, 131, 131, 127},
        {128, 126, 126, 130, 127, 128, 132, 128},
        {124, 126, 120, 131, 131, 126, 121, 134},
        {130, 128, 121, 125, 126, 129, 135, 134},
        {124, 134, 125, 132, 132, 127, 137, 119},
    };
    private static final int[][] ANY_SMOOTHED_AND_SOFTENED = {
        {129, 128, 127, 129, 132, 131, 128, 127},
        {130, 129, 129, 127, 126, 127, 126, 125},
        {129, 130, 129, 128, 127, 128, 128, 126},
        {128, 129, 130, 129, 129, 129, 129, 129},
        {127, 127, 126, 129, 129, 129, 128, 130},
        {127, 125, 125, 128, 128, 127, 127, 131},
        {127, 128, 125, 128, 129, 129, 133, 133},
        {127, 129, 128, 129, 129, 131, 134, 121},
    };
    private static final int[][] CUT_SMOOTHED_AND_SOFTENED = {
        {129, 128, 127, 129, 132},
        {130, 129, 129, 127, 124},
        {129, 130, 129, 128, 126},
        {128, 129, 130, 129, 127},
        {127, 127, 126, 129, 129},
        {127, 125, 125, 128, 129},
        {128, 126, 124, 126, 127},
    };

    public static void main(String[] args) {
        unfiltered();
        edgesAcross();
        edgesDown();
        edgesBelowTheWidthAndTheHeight();
        edgesOfAllShapes();
        edgesOfASmallerPicture();
        greatestPicture();
        edgesOfBlocksOnly();
        edgesOfBlocksOnlyDown();
        edgesOfBlocksInEachQuarter();
        columnsThenRows();
        softenedPairs();
        softenedPairsOfTenBits();
        neighboursInThePicture();
        allAtOnce();
        smoothedThenSoftened();
        eachPlaneByItself();
        check.end();
    }

    private static FileMaker maker(int width, int height, int level, int strength, int ten) {
        FileMaker made = new FileMaker();
        made.width = width;
        made.height = height;
        made.level = level;
        made.strength = strength;
        made.soft = 1;
        made.ten = ten;
        return made;
    }

    private static void due(String what, StillPicture x, int p, int width, int height, int[][] want) {
        for (int py = 0; py < height; py++) {
            for (int px = 0; px < width; px++) {
                check.due(what + ": sample " + p + " " + px + " " + py, want[py][px], x.sample(p, px, py));
            }
        }
    }

    private static StillPicture fine(String what, StillPicture x) {
        check.due(what, StillPicture.FINE, x.decode());
        return x;
    }

    private static int[][] turned(int[][] rows) {
        int[][] columns = new int[rows[0].length][rows.length];
        for (int i = 0; i < rows.length; i++) {
            for (int j = 0; j < rows[0].length; j++) {
                columns[j][i] = rows[i][j];
            }
        }
        return columns;
    }

    private static int[][] same(int count, int... row) {
        int[][] rows = new int[count][];
        for (int i = 0; i < count; i++) {
            rows[i] = row;
        }
        return rows;
    }

    /** "if LEVEL is not 0", "If STRENGTH is not 0": else the samples stay. */
    private static void unfiltered() {
        StillPicture x = fine("unfiltered", Painter.paint(maker(8, 8, 0, 0, 0), ANY));
        due("unfiltered", x, 0, 8, 8, ANY);
        check.due("unfiltered: blocks", 4, x.blocks());
    }

    /** "p0 and q0 differ by at most 4 * t"; "limited to -t .. t"; "made 0 or 2^depth - 1 where below or above" */
    private static void edgesAcross() {
        for (int i = 0; i < EDGES.length; i++) {
            int[] e = EDGES[i];
            int[][] rows = same(4, e[2], e[2], e[2], e[3], e[4], e[5], e[5], e[5]);
            int[][] want = same(3, e[2], e[2], e[2], e[6], e[7], e[5], e[5], e[5]);
            String what = "edge " + i + " across";
            due(what, fine(what, Painter.paint(maker(8, 3, e[0], 0, e[1]), rows)), 0, 8, 3, want);
            // Here q1 is outside the picture, and is a sample all the same.
            due(what + ", cut", fine(what, Painter.paint(maker(5, 1, e[0], 0, e[1]), rows)), 0, 5, 1, want);
        }
    }

    /** "Then the same with columns and rows exchanged." */
    private static void edgesDown() {
        for (int i = 0; i < EDGES.length; i++) {
            int[] e = EDGES[i];
            int[][] rows = turned(same(4, e[2], e[2], e[2], e[3], e[4], e[5], e[5], e[5]));
            int[][] want = turned(same(3, e[2], e[2], e[2], e[6], e[7], e[5], e[5], e[5]));
            String what = "edge " + i + " down";
            due(what, fine(what, Painter.paint(maker(3, 8, e[0], 0, e[1]), rows)), 0, 3, 8, want);
            due(what + ", cut", fine(what, Painter.paint(maker(1, 5, e[0], 0, e[1]), rows)), 0, 1, 5, want);
        }
    }

    /** "for each x = 4, 8, 12 below the width and each y below the height" */
    private static void edgesBelowTheWidthAndTheHeight() {
        int[] row = {128, 128, 128, 128, 132, 132, 132, 132, 136, 136, 136, 136, 140, 140, 140, 140};
        int[] smooth = {128, 128, 128, 129, 131, 132, 132, 133, 135, 136, 136, 137, 139, 140, 140, 140};
        for (int width = 1; width <= 16; width++) {
            int[] want = row.clone();
            for (int at = 4; at < width; at += 4) {
                want[at - 1] = smooth[at - 1];
                want[at] = smooth[at];
            }
            for (int height = 1; height <= 4; height++) {
                String what = width + " wide, " + height + " high";
                StillPicture x = fine(what, Painter.paint(maker(width, height, 1, 0, 0), same(4, row)));
                due(what, x, 0, width, height, same(height, want));
                StillPicture y = fine(what + ", turned", Painter.paint(maker(height, width, 1, 0, 0), turned(same(4, row))));
                due(what + ", turned", y, 0, height, width, turned(same(height, want)));
            }
        }
    }

    /**
     * Units each of which is 4 more than the one to its left, or than the one above it. The quarters of
     * the picture whose bit is 1 in eights are one block of 8, the others four blocks of 4.
     */
    private static TileWriter steps(int width, int height, int eights, boolean isDown) {
        TileWriter tile = new TileWriter(false).symbol(0, 1);
        int[] step = new int[16];
        step[0] = 4 * 4;
        for (int unit = 0; unit < 16; unit++) {
            int x = 4 * (unit % 2) + 8 * (unit / 4 % 2);
            int y = 4 * (unit / 2 % 2) + 8 * (unit / 8);
            boolean isEight = (eights >> unit / 4 & 1) == 1;
            if (x < width && y < height) {
                if (unit % 4 == 0) {
                    tile.symbol(1, isEight ? 0 : 1);
                }
                // By mode 1 a unit is as what is above it, in the first row as what is to its left.
                if (unit % 4 == 0 || !isEight) {
                    tile.symbol(2 + (y > 0 ? 1 : 0) + (x > 0 ? 2 : 0), 1);
                }
                boolean isStep = isDown ? y > 0 : y == 0 && x > 0;
                tile.numbers(0, isStep ? step : new int[16]);
            }
        }
        return tile;
    }

    /** "where x - 1, y and x, y are of different blocks", which may be otherwise in the next row or column. */
    private static void edgesOfBlocksInEachQuarter() {
        int[] smooth = {128, 128, 128, 129, 131, 132, 132, 133, 135, 136, 136, 137, 139, 140, 140, 140};
        for (int eights = 0; eights < 16; eights++) {
            for (int turn = 0; turn < 2; turn++) {
                FileMaker made = maker(16, 16, 1, 0, 0);
                made.tile = steps(16, 16, eights, turn == 1).bytes();
                String what = "blocks of 8 by " + eights + ", turn " + turn;
                StillPicture x = fine(what, FileMaker.load(made.build()));
                for (int n = 0; n < 256; n++) {
                    int px = n % 16;
                    int py = n / 16;
                    boolean isEight = (eights >> (px / 8 + py / 8 * 2) & 1) == 1;
                    check.due(what + ": size", isEight ? 8 : 4, x.block(px, py, 0));
                    int at = turn == 1 ? py : px;
                    // The edge at 8 is one of all blocks, those at 4 and 12 are inside a block of 8.
                    boolean isInside = isEight && at % 8 >= 3 && at % 8 <= 4;
                    check.due(what + ": sample " + px + " " + py, isInside ? 128 + at / 4 * 4 : smooth[at], x.sample(0, px, py));
                }
            }
        }
    }

    /** "for each x = 4, 8, 12 below the width and each y below the height", and the same exchanged, where both are great. */
    private static void edgesOfAllShapes() {
        int[] smooth = {128, 128, 128, 129, 131, 132, 132, 133, 135, 136, 136, 137, 139, 140, 140, 140};
        for (int width = 1; width <= 16; width++) {
            for (int height = 1; height <= 16; height++) {
                for (int turn = 0; turn < 2; turn++) {
                    FileMaker made = maker(width, height, 1, 0, 0);
                    made.tile = steps(width, height, 0, turn == 1).bytes();
                    String what = width + " times " + height + ", turn " + turn;
                    StillPicture x = fine(what, FileMaker.load(made.build()));
                    // The last edge is smoothed only if there is a block behind it.
                    int end = (turn == 1 ? height : width) - 1;
                    for (int py = 0; py < height; py++) {
                        for (int px = 0; px < width; px++) {
                            int at = turn == 1 ? py : px;
                            int want = at == end && at % 4 == 3 ? 128 + at / 4 * 4 : smooth[at];
                            check.due(what + ": sample " + px + " " + py, want, x.sample(0, px, py));
                        }
                    }
                }
            }
        }
    }

    /** The same with an object that has decoded a greater picture: what is outside the smaller one is not filtered in. */
    private static void edgesOfASmallerPicture() {
        int[] row = {128, 128, 128, 128, 132, 132, 132, 132, 136, 136, 136, 136, 140, 140, 140, 140};
        int[] smooth = {128, 128, 128, 129, 131, 132, 132, 133, 135, 136, 136, 137, 139, 140, 140, 140};
        for (int width = 4; width < 16; width += 4) {
            int[] want = java.util.Arrays.copyOf(smooth, width);
            want[width - 1] = row[width - 1];
            StillPicture x = fine("great", Painter.paint(maker(16, 4, 1, 0, 0), same(4, row)));
            again(x, painted(maker(width, 4, 1, 0, 0), same(4, row)));
            due("smaller, " + width + " wide", x, 0, width, 4, same(4, want));
            StillPicture y = fine("great, turned", Painter.paint(maker(4, 16, 1, 0, 0), turned(same(4, row))));
            again(y, painted(maker(4, width, 1, 0, 0), turned(same(4, row))));
            due("smaller, " + width + " high", y, 0, 4, width, turned(same(4, want)));
        }
    }

    private static int[] painted(FileMaker made, int[][] rows) {
        Painter.paint(made, rows);
        return made.build();
    }

    private static void again(StillPicture x, int[] file) {
        x.clear();
        for (int b : file) {
            x.add(b);
        }
        check.due("again", StillPicture.FINE, x.decode());
    }

    /** A picture that fills all there is room for. */
    private static void greatestPicture() {
        int[][] flat = same(16, 90, 90, 90, 90, 90, 90, 90, 90, 90, 90, 90, 90, 90, 90, 90, 90);
        FileMaker made = maker(16, 16, 7, 3, 0);
        made.layout = 1;
        for (int p = 0; p < 3; p++) {
            due("greatest", fine("greatest", Painter.paint(made, flat, flat, flat)), p, 16, 16, flat);
        }
    }

    /** "where x - 1, y and x, y are of different blocks" */
    private static void edgesOfBlocksOnly() {
        // Differences of 4 that a unit has against the one to its left; blocks of 16, of 8 and of 4 in turn.
        int[] step = new int[16];
        step[0] = 4 * 4;
        TileWriter one = new TileWriter(false).symbol(0, 0).symbol(2, 1);
        one.none(0).numbers(0, step).numbers(0, step).numbers(0, step);
        dueSteps("one block of 16", one, 128, 128, 128, 128, 132, 132, 132, 132, 136, 136, 136, 136, 140, 140, 140, 140);
        TileWriter two = new TileWriter(false).symbol(0, 1).symbol(1, 0).symbol(2, 1).none(0).numbers(0, step);
        two.symbol(1, 0).symbol(4, 1).numbers(0, step).numbers(0, step);
        dueSteps("two blocks of 8", two, 128, 128, 128, 128, 132, 132, 132, 133, 135, 136, 136, 136, 140, 140, 140, 140);
        TileWriter three = new TileWriter(false).symbol(0, 1).symbol(1, 0).symbol(2, 1).none(0).numbers(0, step);
        three.symbol(1, 1).symbol(4, 1).numbers(0, step).symbol(4, 1).numbers(0, step);
        dueSteps("a block of 8 and two of 4", three,
            128, 128, 128, 128, 132, 132, 132, 133, 135, 136, 136, 137, 139, 140, 140, 140);
        TileWriter four = new TileWriter(false).symbol(0, 1).symbol(1, 1).symbol(2, 1).none(0).symbol(4, 1).numbers(0, step);
        four.symbol(1, 0).symbol(4, 1).numbers(0, step).numbers(0, step);
        dueSteps("two blocks of 4 and one of 8", four,
            128, 128, 128, 129, 131, 132, 132, 133, 135, 136, 136, 136, 140, 140, 140, 140);
    }

    private static void dueSteps(String what, TileWriter tile, int... want) {
        FileMaker made = maker(16, 4, 1, 0, 0);
        made.tile = tile.bytes();
        due(what, fine(what, FileMaker.load(made.build())), 0, 16, 4, same(4, want));
    }

    private static void edgesOfBlocksOnlyDown() {
        int[] step = new int[16];
        step[0] = 4 * 4;
        TileWriter one = new TileWriter(false).symbol(0, 0).symbol(2, 1);
        one.none(0).numbers(0, step).numbers(0, step).numbers(0, step);
        dueStepsDown("one block of 16", one, 128, 128, 128, 128, 132, 132, 132, 132, 136, 136, 136, 136, 140, 140, 140, 140);
        TileWriter two = new TileWriter(false).symbol(0, 1).symbol(1, 0).symbol(2, 1).none(0).numbers(0, step);
        two.symbol(1, 0).symbol(3, 1).numbers(0, step).numbers(0, step);
        dueStepsDown("two blocks of 8", two, 128, 128, 128, 128, 132, 132, 132, 133, 135, 136, 136, 136, 140, 140, 140, 140);
        TileWriter three = new TileWriter(false).symbol(0, 1).symbol(1, 0).symbol(2, 1).none(0).numbers(0, step);
        three.symbol(1, 1).symbol(3, 1).numbers(0, step).symbol(3, 1).numbers(0, step);
        dueStepsDown("a block of 8 and two of 4", three,
            128, 128, 128, 128, 132, 132, 132, 133, 135, 136, 136, 137, 139, 140, 140, 140);
    }

    private static void dueStepsDown(String what, TileWriter tile, int... want) {
        FileMaker made = maker(4, 16, 1, 0, 0);
        made.tile = tile.bytes();
        due(what + ", down", fine(what, FileMaker.load(made.build())), 0, 4, 16, turned(same(4, want)));
    }

    private static void columnsThenRows() {
        StillPicture x = fine("columns, then rows", Painter.paint(maker(8, 8, 6, 0, 0), ANY));
        due("columns, then rows", x, 0, 8, 8, ANY_SMOOTHED);
    }

    /** "brought nearer to 0 where it is further from it than 4 * t - (its distance from 0 >> 1), but not beyond 0" */
    private static void softenedPairs() {
        for (int strength = 1; strength <= 3; strength++) {
            int[][] all = SOFTENED[strength - 1];
            for (int d = 0; d < all.length; d++) {
                duePair(strength, 0, 128, 128 + d, all[d][0], all[d][1]);
                duePair(strength, 0, 128 + d, 128, all[d][1], all[d][0]);
            }
            duePair(strength, 0, 0, 255, 0, 255);
            duePair(strength, 0, 255, 0, 255, 0);
        }
        // "but not beyond 0": two neighbours that are far count nothing, also together.
        for (int strength = 1; strength <= 3; strength++) {
            for (int far = 8 * strength; far <= 100; far++) {
                dueMiddle(strength, 128, 128 + far);
                dueMiddle(strength, 128 + far, 128);
            }
        }
        // At the ends of what samples can be.
        duePair(3, 0, 0, 8, 2, 6);
        duePair(3, 0, 255, 247, 253, 249);
        duePair(0, 0, 128, 136, 128, 136);
    }

    private static void dueMiddle(int strength, int middle, int beside) {
        int[][] rows = same(4, beside, middle, beside, middle);
        StillPicture x = fine("middle", Painter.paint(maker(3, 1, 0, strength, 0), rows));
        check.due("strength " + strength + ", " + middle + " between " + beside, middle, x.sample(0, 1, 0));
    }

    private static void softenedPairsOfTenBits() {
        for (int[] s : SOFTENED_TEN) {
            duePair(s[0], 1, 512, 512 + s[1], 512 + s[2], 512 + s[3]);
            duePair(s[0], 1, 512 + s[1], 512, 512 + s[3], 512 + s[2]);
        }
        duePair(3, 1, 0, 1023, 0, 1023);
        duePair(3, 1, 1023, 1007, 1019, 1011);
    }

    /** Two samples of a picture; those outside it are far from both. */
    private static void duePair(int strength, int ten, int first, int second, int wantFirst, int wantSecond) {
        int far = ten == 1 ? 520 : 134;
        int[][] rows = {{first, second, far, far}, {far, far, far, far}, {far, far, far, far}, {far, far, far, far}};
        String what = "strength " + strength + ", " + first + " and " + second;
        StillPicture x = fine(what, Painter.paint(maker(2, 1, 0, strength, ten), rows));
        check.due(what + ": first", wantFirst, x.sample(0, 0, 0));
        check.due(what + ": second", wantSecond, x.sample(0, 1, 0));
        StillPicture y = fine(what + ", down", Painter.paint(maker(1, 2, 0, strength, ten), turned(rows)));
        check.due(what + ", down: first", wantFirst, y.sample(0, 0, 0));
        check.due(what + ", down: second", wantSecond, y.sample(0, 0, 1));
    }

    /** "those of the four neighbours n (left, right, above, below) that are in the picture" */
    private static void neighboursInThePicture() {
        int[][] rows = {{120, 130, 125, 140}, {128, 119, 133, 126}, {122, 127, 121, 131}, {135, 124, 129, 118}};
        int[][] four = {{122, 127, 128, 140}, {125, 122, 130, 129}, {125, 123, 125, 129}, {134, 127, 126, 119}};
        int[][] three = {{122, 127, 127}, {125, 122, 131}, {125, 124, 123}};
        int[][] low = {{124, 125, 128}, {124, 124, 130}};
        due("4 times 4", fine("4 times 4", Painter.paint(maker(4, 4, 0, 2, 0), rows)), 0, 4, 4, four);
        due("3 times 3", fine("3 times 3", Painter.paint(maker(3, 3, 0, 2, 0), rows)), 0, 3, 3, three);
        due("3 times 2", fine("3 times 2", Painter.paint(maker(3, 2, 0, 3, 0), rows)), 0, 3, 2, low);
        // No neighbour at all: nothing to add.
        for (int strength = 0; strength <= 3; strength++) {
            StillPicture x = fine("one sample", Painter.paint(maker(1, 1, 7, strength, 0), rows));
            check.due("one sample, strength " + strength, 120, x.sample(0, 0, 0));
        }
        // One neighbour on each side counts, and none across the corner.
        for (int side = 0; side < 4; side++) {
            int[][] cross = new int[4][];
            for (int i = 0; i < 4; i++) {
                cross[i] = new int[] {128, 128, 128, 128};
            }
            int px = side == 0 ? 0 : side == 1 ? 2 : 1;
            int py = side == 2 ? 0 : side == 3 ? 2 : 1;
            cross[py][px] = 132;
            StillPicture x = fine("side " + side, Painter.paint(maker(3, 3, 0, 3, 0), cross));
            check.due("side " + side, 129, x.sample(0, 1, 1));
            check.due("side " + side + ": across the corner", 128, x.sample(0, 2 - px, 2 - py));
        }
    }

    /** "all samples s of the picture become at once" */
    private static void allAtOnce() {
        int[][] rows = same(4, 128, 132, 136, 140, 144, 148, 152, 156);
        int[][] want = same(4, 129, 132, 136, 140, 144, 148, 152, 155);
        due("at once across", fine("at once across", Painter.paint(maker(8, 4, 0, 3, 0), rows)), 0, 8, 4, want);
        due("at once down", fine("at once down", Painter.paint(maker(4, 8, 0, 3, 0), turned(rows))), 0, 4, 8, turned(want));
    }

    private static void smoothedThenSoftened() {
        StillPicture x = fine("both", Painter.paint(maker(8, 8, 6, 3, 0), ANY));
        due("both", x, 0, 8, 8, ANY_SMOOTHED_AND_SOFTENED);
        StillPicture cut = fine("both, cut", Painter.paint(maker(5, 7, 6, 3, 0), ANY));
        due("both, cut", cut, 0, 5, 7, CUT_SMOOTHED_AND_SOFTENED);
        StillPicture hard = fine("both, SOFT is 0", paintHard());
        due("both, SOFT is 0", hard, 0, 8, 8, ANY_SMOOTHED);
    }

    private static StillPicture paintHard() {
        FileMaker made = maker(8, 8, 6, 3, 0);
        made.soft = 0;
        return Painter.paint(made, ANY);
    }

    /** "each plane by itself" */
    private static void eachPlaneByItself() {
        int[][] flat = same(8, 90, 90, 90, 90, 90, 90, 90, 90);
        for (int p = 0; p < 3; p++) {
            int[][][] planes = {flat, flat, flat};
            planes[p] = ANY;
            FileMaker made = maker(8, 8, 6, 3, 0);
            made.layout = 1;
            StillPicture x = fine("plane " + p, Painter.paint(made, planes));
            for (int other = 0; other < 3; other++) {
                due("plane " + p, x, other, 8, 8, other == p ? ANY_SMOOTHED_AND_SOFTENED : flat);
            }
        }
    }
}
