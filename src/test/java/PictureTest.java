/** Promises 7 to 17: pictures whose answers were worked out from the document, apart from the program. */
public final class PictureTest {
    private static final Check check = new Check();

    public static void main(String[] args) {
        emptyTile();
        stillTablesStay();
        ratesOfTables();
        tooGreatADifference();
        samplesStayInRange();
        modesBesideFullNeighbours();
        modesAtTheEdges();
        modeTables();
        colourModes();
        treesAndBlocks();
        placesOfNumbers();
        scaledDifferences();
        limitsOfNumbers();
        edgesAreSmoothed();
        edgesInsideABlockStay();
        samplesAreSoftened();
        answersOutsideThePicture();
        tileEndsWithItsUnit();
        decodedTwice();
        check.end();
    }

    private static FileMaker maker(int width, int height) {
        FileMaker made = new FileMaker();
        made.width = width;
        made.height = height;
        return made;
    }

    private static StillPicture fine(String what, FileMaker made) {
        StillPicture x = FileMaker.load(made.build());
        check.due(what, StillPicture.FINE, x.decode());
        return x;
    }

    private static StillPicture fine(String what, FileMaker made, TileWriter tile) {
        made.tile = tile.bytes();
        StillPicture x = fine(what, made);
        check.due(what + ": symbols", tile.symbols(), x.symbols());
        return x;
    }

    private static void dueUnit(String what, StillPicture x, int p, int px, int py, int... want) {
        for (int i = 0; i < 16; i++) {
            check.due(what + ": sample " + i, want[i], x.sample(p, px + i % 4, py + i / 4));
        }
    }

    private static int[] all(int value) {
        int[] same = new int[16];
        java.util.Arrays.fill(same, value);
        return same;
    }

    private static int[] list(int... values) {
        return values;
    }

    /** VALUE stays 0, so that each symbol is 0: a difference of 1, which comes to nothing. */
    private static void emptyTile() {
        StillPicture x = fine("empty tile", maker(4, 4));
        check.due("empty tile: planes", 1, x.planes());
        check.due("empty tile: width", 4, x.width());
        check.due("empty tile: height", 4, x.height());
        check.due("empty tile: depth", 8, x.depth());
        check.due("empty tile: blocks", 1, x.blocks());
        check.due("empty tile: size", 16, x.block(3, 3, 0));
        check.due("empty tile: mode", 0, x.block(0, 0, 1));
        check.due("empty tile: colour mode", 0, x.block(0, 0, 2));
        check.due("empty tile: type", 0, x.block(0, 0, 3));
        check.due("empty tile: symbols", 6, x.symbols());
        check.due("empty tile: taken", 15 + 3 + 1 + 4 + 2 + 1, x.taken());
        dueUnit("empty tile", x, 0, 0, 0, all(128));
        check.due("empty tile: PARTITION of 16", 17408, x.table(0, 0));
        check.due("empty tile: PARTITION of 8", 16384, x.table(1, 0));
        int[] mode = {6314, 11604, 16896, 22186, 27476, 32768};
        for (int i = 0; i < 6; i++) {
            check.due("empty tile: MODE " + i, mode[i], x.table(2, i));
        }
        check.due("empty tile: ZERO", 17408, x.table(8, 0));
        check.due("empty tile: LAST", 2048 + (30720 >> 5), x.table(11, 0));
        check.due("empty tile: SIZE", 8192 + (24576 >> 4), x.table(13, 0));
        check.due("empty tile: SIZE of others", 8192, x.table(14, 0));
    }

    private static void stillTablesStay() {
        FileMaker made = maker(4, 4);
        made.still = 1;
        StillPicture x = fine("still", made);
        for (int t = 0; t < 19; t++) {
            int n = Model.TABLE_SIZES[t];
            for (int i = 0; i < n; i++) {
                check.due("still: table " + t + " " + i, 32768 * (i + 1) / n, x.table(t, i));
            }
            check.due("still: table " + t + " has no more", -1, x.table(t, n));
        }
    }

    private static void ratesOfTables() {
        FileMaker made = maker(16, 16);
        made.layout = 1;
        TileWriter tile = new TileWriter(false).symbol(0, 0).symbol(2, 0).symbol(6, 0);
        for (int i = 0; i < 48; i++) {
            tile.none(i / 16);
        }
        StillPicture x = fine("rates", made, tile);
        check.due("16 symbols of a table", 5837, x.table(8, 0));
        check.due("32 symbols of a table", 3520, x.table(9, 0));
        check.due("rates: one block", 1, x.blocks());
        check.due("rates: three planes", 3, x.planes());
        dueUnit("rates", x, 2, 12, 12, all(128));
    }

    private static void tooGreatADifference() {
        for (int zeros = 11; zeros <= 14; zeros++) {
            TileWriter tile = new TileWriter(false).symbol(0, 0).symbol(2, 0);
            tile.symbol(8, 0).symbol(11, 0).symbol(13, 3);
            for (int i = 0; i < zeros; i++) {
                tile.bit(0);
            }
            tile.bit(1);
            FileMaker made = maker(4, 4);
            made.tile = tile.bytes();
            StillPicture x = FileMaker.load(made.build());
            check.due(zeros + " zeros", zeros < 13 ? StillPicture.FINE : StillPicture.DATA, x.decode());
            check.due(zeros + " zeros: width", zeros < 13 ? 4 : 0, x.width());
            check.due(zeros + " zeros: sample", zeros < 13 ? 255 : -1, x.sample(0, 0, 0));
        }
    }

    private static void samplesStayInRange() {
        for (int ten = 0; ten < 2; ten++) {
            int top = ten == 1 ? 1023 : 255;
            int middle = ten == 1 ? 512 : 128;
            int[] most = {-middle - 4, -middle, -middle + 4, 0, middle - 4, middle, middle + 4, 2000, -2000, 4, 8, -4, 0, 0, 0, 0};
            int[] want = new int[16];
            for (int i = 0; i < 16; i++) {
                int v = middle + most[i];
                want[i] = v < 0 ? 0 : v > top ? top : v;
            }
            FileMaker made = maker(4, 4);
            made.ten = ten;
            TileWriter tile = new TileWriter(false).symbol(0, 0).symbol(2, 0).differences(0, most);
            StillPicture x = fine("range", made, tile);
            check.due("range: depth", ten == 1 ? 10 : 8, x.depth());
            dueUnit("range", x, 0, 0, 0, want);
        }
    }

    /** Four blocks; the last one has 120 128 108 140 above, 100 116 132 80 to the left, 112 at the corner. */
    private static TileWriter aroundTheLast(int mode) {
        TileWriter tile = new TileWriter(false).symbol(0, 1).symbol(1, 1);
        tile.symbol(2, 0).differences(0, 0, 0, 0, -28, 0, 0, 0, -24, 0, 0, 0, -20, 12, 4, -8, -16);
        tile.symbol(2, 2).differences(0, 0, 0, 0, 0, 0, 0, 0, 0, 0, 0, 0, 0, 8, 16, -4, 28);
        tile.symbol(2, 1).differences(0, 0, 0, 0, -12, 0, 0, 0, 4, 0, 0, 0, 20, 0, 0, 0, -32);
        return tile.symbol(5, mode).none(0);
    }

    private static void modesBesideFullNeighbours() {
        int[][] want = {
            all(116),
            {120, 128, 108, 140, 120, 128, 108, 140, 120, 128, 108, 140, 120, 128, 108, 140},
            {100, 100, 100, 100, 116, 116, 116, 116, 132, 132, 132, 132, 80, 80, 80, 80},
            {112, 112, 100, 140, 120, 128, 112, 140, 132, 132, 132, 140, 80, 80, 80, 112},
            {110, 119, 115, 134, 112, 118, 114, 127, 114, 117, 114, 121, 86, 94, 101, 110},
            {124, 118, 124, 140, 118, 124, 140, 140, 124, 140, 140, 140, 140, 140, 140, 140},
        };
        for (int mode = 0; mode < 6; mode++) {
            StillPicture x = fine("mode " + mode, maker(8, 8), aroundTheLast(mode));
            dueUnit("mode " + mode + ": first", x, 0, 0, 0,
                128, 128, 128, 100, 128, 128, 128, 104, 128, 128, 128, 108, 140, 132, 120, 112);
            dueUnit("mode " + mode + ": second", x, 0, 4, 0,
                100, 100, 100, 100, 104, 104, 104, 104, 108, 108, 108, 108, 120, 128, 108, 140);
            dueUnit("mode " + mode + ": third", x, 0, 0, 4,
                140, 132, 120, 100, 140, 132, 120, 116, 140, 132, 120, 132, 140, 132, 120, 80);
            dueUnit("mode " + mode + ": last", x, 0, 4, 4, want[mode]);
            check.due("mode of the last", mode, x.block(7, 7, 1));
            check.due("mode of the second", 2, x.block(4, 3, 1));
            check.due("mode of the third", 1, x.block(3, 4, 1));
            check.due("four blocks", 4, x.blocks());
            check.due("size of the last", 4, x.block(4, 4, 0));
        }
    }

    /** At the left and upper edges the other side's first sample stands for what is missing. */
    private static void modesAtTheEdges() {
        int[] corner = {0, 0, 0, 40, 0, 0, 0, 0, 0, 0, 0, 0, -40, 0, 0, 8};
        int[][] right = {
            list(152, 152, 152, 152, 152, 152, 152, 152, 152, 152, 152, 152, 152, 152, 152, 152),
            all(168),
            list(168, 168, 168, 168, 128, 128, 128, 128, 128, 128, 128, 128, 136, 136, 136, 136),
        };
        int[][] below = {
            list(102, 102, 102, 102, 102, 102, 102, 102, 102, 102, 102, 102, 102, 102, 102, 102),
            list(88, 128, 128, 136, 88, 128, 128, 136, 88, 128, 128, 136, 88, 128, 128, 136),
            all(88),
        };
        right[0] = all((4 * 168 + 168 + 128 + 128 + 136 + 4) >> 3);
        below[0] = all((4 * 88 + 88 + 128 + 128 + 136 + 4) >> 3);
        for (int mode = 0; mode < 3; mode++) {
            TileWriter tile = new TileWriter(false).symbol(0, 0);
            tile.symbol(2, mode).differences(0, corner).none(0);
            dueUnit("right, mode " + mode, fine("right", maker(8, 4), tile), 0, 4, 0, right[mode]);
            dueUnit("below, mode " + mode, fine("below", maker(4, 8), tile), 0, 0, 4, below[mode]);
        }
        // In mode 3 what is missing is the corner too, so that the side that is there is followed.
        TileWriter tile = new TileWriter(false).symbol(0, 0).symbol(2, 3).differences(0, corner).none(0);
        dueUnit("right, mode 3", fine("right", maker(8, 4), tile), 0, 4, 0, right[2]);
        dueUnit("below, mode 3", fine("below", maker(4, 8), tile), 0, 0, 4, below[1]);
    }

    /** The table of a mode tells whether the blocks above and to the left have mode 0. */
    private static void modeTables() {
        for (int above = 0; above < 2; above++) {
            for (int left = 0; left < 2; left++) {
                TileWriter tile = new TileWriter(false).symbol(0, 1).symbol(1, 1);
                tile.symbol(2, 0).none(0);
                tile.symbol(2, above * 5).none(0);
                tile.symbol(2, left * 4).none(0);
                int table = 2 + above + 2 * left;
                tile.symbol(table, 3).none(0);
                StillPicture x = fine("mode table " + table, maker(8, 8), tile);
                check.due("mode by table " + table, 3, x.block(5, 5, 1));
                check.due("mode above", above * 5, x.block(5, 3, 1));
                check.due("mode to the left", left * 4, x.block(3, 5, 1));
            }
        }
    }

    private static void colourModes() {
        int[] luma = {0, 0, 0, 0, 8, 8, 8, 8, -8, -8, -8, -8, 16, 16, 16, 16};
        // The mean of plane 0 is 132; its samples lie -4, 4, -12, 12 beside that.
        int[][] want = {
            {131, 125, 137, 119}, {130, 126, 134, 122}, {129, 127, 131, 125}, {128, 128, 128, 128},
            {127, 129, 125, 131}, {126, 130, 122, 134}, {125, 131, 119, 137},
        };
        for (int share = 0; share < 7; share++) {
            FileMaker made = maker(4, 4);
            made.layout = 1;
            TileWriter tile = new TileWriter(false).symbol(0, 0).symbol(2, 1);
            tile.symbol(6, 6).symbol(7, share).symbol(7, 6 - share);
            tile.differences(0, luma).none(1).none(2);
            StillPicture x = fine("share " + share, made, tile);
            check.due("share: mode", 1, x.block(0, 0, 1));
            check.due("share: colour mode", 6, x.block(0, 0, 2));
            for (int i = 0; i < 16; i++) {
                check.due("share " + share + ", plane 1", want[share][i / 4], x.sample(1, i % 4, i / 4));
                check.due("share " + share + ", plane 2", want[6 - share][i / 4], x.sample(2, i % 4, i / 4));
            }
        }
        FileMaker made = maker(8, 4);
        made.layout = 1;
        TileWriter tile = new TileWriter(false).symbol(0, 0).symbol(2, 0).symbol(6, 2);
        tile.none(0).none(0).differences(1, luma).none(1).none(2).none(2);
        StillPicture x = fine("colour mode 2", made, tile);
        check.due("colour mode 2", 2, x.block(7, 3, 2));
        dueUnit("colour mode 2", x, 1, 4, 0,
            128, 128, 128, 128, 136, 136, 136, 136, 120, 120, 120, 120, 144, 144, 144, 144);
        dueUnit("colour mode 2: plane 2", x, 2, 4, 0, all(128));
    }

    private static void treesAndBlocks() {
        TileWriter tile = new TileWriter(false).symbol(0, 1);
        tile.symbol(1, 0).symbol(2, 1).none(0).none(0).none(0).none(0);
        tile.symbol(1, 1).symbol(4, 2).none(0).symbol(4, 3).none(0).symbol(5, 4).none(0).symbol(5, 5).none(0);
        tile.symbol(1, 0).symbol(3, 0).none(0).none(0);
        tile.symbol(1, 0).symbol(3, 2).none(0).none(0);
        StillPicture x = fine("trees", maker(16, 9), tile);
        check.due("trees: blocks", 7, x.blocks());
        int[] sizes = {8, 8, 4, 4, 8, 8, 4, 4, 8, 8, 8, 8};
        int[] modes = {1, 1, 2, 3, 1, 1, 4, 5, 0, 0, 2, 2};
        for (int i = 0; i < 12; i++) {
            check.due("trees: size " + i, sizes[i], x.block(4 * (i % 4), 4 * (i / 4), 0));
            check.due("trees: mode " + i, modes[i], x.block(4 * (i % 4) + 3, 4 * (i / 4), 1));
        }
        check.due("trees: below the picture", -1, x.block(0, 9, 0));

        tile = new TileWriter(false).symbol(0, 1).symbol(1, 1).symbol(2, 5).none(0);
        x = fine("one sample", maker(1, 1), tile);
        check.due("one sample: blocks", 1, x.blocks());
        check.due("one sample: size", 4, x.block(0, 0, 0));
        check.due("one sample", 128, x.sample(0, 0, 0));
        check.due("one sample: no second", -1, x.sample(0, 1, 0));
    }

    private static void placesOfNumbers() {
        int[] values = {0, 1, 5, 6, 2, 4, 7, 12, 3, 8, 11, 13, 9, 10, 14, 15};
        FileMaker made = maker(4, 4);
        made.q = 4;
        TileWriter tile = new TileWriter(false).symbol(0, 0).symbol(2, 0).symbol(10, 3);
        // Told one by one, not by the writer, so that the order of places is the document's.
        tile.symbol(8, 0).symbol(11, 15);
        for (int k = 15; k >= 0; k--) {
            int size = k == 15 ? k - 1 : k;
            tile.symbol(k == 0 ? 13 : k <= 5 ? 14 : 15, Math.min(size, 3));
            if (size >= 3) {
                int zeros = size - 2 >= 8 ? 3 : size - 2 >= 4 ? 2 : size - 2 >= 2 ? 1 : 0;
                for (int i = 0; i < zeros; i++) {
                    tile.bit(0);
                }
                for (int i = zeros; i >= 0; i--) {
                    tile.bit(((size - 2) >> i) & 1);
                }
            }
            if (k != 0) {
                tile.bit(k & 1);
            }
        }
        StillPicture x = fine("places", made, tile);
        check.due("places: type", 3, x.block(0, 0, 3));
        int[] want = new int[16];
        for (int i = 0; i < 16; i++) {
            want[i] = 128 + (values[i] % 2 == 1 ? -2 : 2) * values[i];
        }
        dueUnit("places", x, 0, 0, 0, want);
    }

    private static void scaledDifferences() {
        int[][] want = {
            all(8),
            {16, 0, 0, 0, 16, 0, 0, 0, 16, 0, 0, 0, 16, 0, 0, 0},
            {16, 16, 16, 16, 0, 0, 0, 0, 0, 0, 0, 0, 0, 0, 0, 0},
            {32, 0, 0, 0, 0, 0, 0, 0, 0, 0, 0, 0, 0, 0, 0, 0},
        };
        int[] four = new int[16];
        four[0] = 4;
        for (int type = 0; type < 4; type++) {
            FileMaker made = maker(4, 4);
            made.q = 30;
            TileWriter tile = new TileWriter(false).symbol(0, 0).symbol(2, 0).symbol(10, type).numbers(0, four);
            StillPicture x = fine("type " + type, made, tile);
            check.due("type", type, x.block(3, 0, 3));
            for (int i = 0; i < 16; i++) {
                check.due("type " + type + ": sample " + i, 128 + want[type][i], x.sample(0, i % 4, i / 4));
            }
        }
        // The greatest numbers that can be told, for the last place and for another.
        int[] great = new int[16];
        great[0] = -8193;
        great[5] = 8194;
        FileMaker made = maker(4, 4);
        made.q = 63;
        made.ten = 1;
        TileWriter tile = new TileWriter(false).symbol(0, 0).symbol(2, 0).symbol(10, 3).numbers(0, great);
        StillPicture x = fine("great numbers", made, tile);
        check.due("great numbers: below", 0, x.sample(0, 0, 0));
        check.due("great numbers: above", 1023, x.sample(0, 1, 1));
        check.due("great numbers: beside", 512, x.sample(0, 2, 2));
    }

    /** Numbers that are limited and nearly cancelled, so that a limit of one more would be seen. */
    private static void limitsOfNumbers() {
        dueLimited("first, above", 5600, 2, -4528, 0, 33);
        dueLimited("first, below", -5600, 2, 4505, 0, -38);
        dueLimited("rows, above", 5400, 8, -3023, 1, 125);
        dueLimited("rows, below", -5400, 8, 3032, 1, -121);
    }

    private static void dueLimited(String what, int first, int place, int other, int type, int want) {
        int[] values = new int[16];
        values[0] = first;
        values[place] = other;
        FileMaker made = maker(4, 4);
        made.q = 1;
        TileWriter tile = new TileWriter(false).symbol(0, 0).symbol(2, 0).symbol(10, type).numbers(0, values);
        check.due("limit, " + what, 128 + want, fine("limit", made, tile).sample(0, 0, 0));
    }

    /** Two blocks, the second one brighter by d; across they lie side by side, else one below the other. */
    private static StillPicture twoBlocks(int level, int ten, int d, boolean across) {
        FileMaker made = across ? maker(8, 3) : maker(3, 8);
        made.level = level;
        made.ten = ten;
        int[] step = new int[16];
        step[0] = 4 * d;
        TileWriter tile = new TileWriter(false).symbol(0, 1).symbol(1, 1);
        tile.symbol(2, 0).none(0).symbol(2, 0).numbers(0, step);
        return fine("two blocks", made, tile);
    }

    private static void edgesAreSmoothed() {
        dueEdge(0, 0, 12, 0, 12);
        dueEdge(3, 0, 12, 3, 9);
        dueEdge(3, 0, 13, 0, 13);
        dueEdge(3, 0, -12, -3, -9);
        dueEdge(3, 0, -13, 0, -13);
        dueEdge(2, 0, 8, 2, 6);
        dueEdge(7, 0, 28, 7, 21);
        dueEdge(7, 0, 29, 0, 29);
        dueEdge(7, 0, 5, 1, 4);
        dueEdge(1, 1, 16, 4, 12);
        dueEdge(1, 1, 17, 0, 17);
    }

    private static void dueEdge(int level, int ten, int d, int before, int behind) {
        int middle = ten == 1 ? 512 : 128;
        int[] want = {0, 0, 0, before, behind, d, d, d};
        String what = "edge of " + d + ", level " + level + ", place ";
        StillPicture across = twoBlocks(level, ten, d, true);
        StillPicture down = twoBlocks(level, ten, d, false);
        for (int i = 0; i < 8; i++) {
            for (int j = 0; j < 3; j++) {
                check.due(what + i + " across", middle + want[i], across.sample(0, i, j));
                check.due(what + i + " down", middle + want[i], down.sample(0, j, i));
            }
        }
    }

    private static void edgesInsideABlockStay() {
        FileMaker made = maker(8, 4);
        made.level = 7;
        int[] step = new int[16];
        step[0] = 4 * 8;
        TileWriter tile = new TileWriter(false).symbol(0, 0).symbol(2, 0).none(0).numbers(0, step);
        StillPicture x = fine("inside a block", made, tile);
        dueUnit("inside a block: first", x, 0, 0, 0, all(128));
        dueUnit("inside a block: second", x, 0, 4, 0, all(136));
    }

    private static void samplesAreSoftened() {
        dueSoft(1, 0, 4, 1, 4);
        dueSoft(1, 0, 8, 0, 8);
        dueSoft(3, 0, 8, 2, 6);
        dueSoft(3, 0, 12, 2, 11);
        dueSoft(3, 0, 28, 0, 28);
        dueSoft(0, 0, 8, 0, 8);
        dueSoft(1, 1, 12, 3, 10);
        // All at once, and each neighbour for itself: 128 140 128 in a row, 12 being 10 of 16 at 10 bits.
        FileMaker made = maker(3, 1);
        made.soft = 1;
        made.ten = 1;
        made.strength = 1;
        int[] d = {0, 12, 0, 400, 400, 400, 400, 400, 0, 0, 0, 0, 0, 0, 0, 0};
        TileWriter tile = new TileWriter(false).symbol(0, 0).symbol(2, 0).differences(0, d);
        StillPicture x = fine("three in a row", made, tile);
        check.due("three in a row: 0", 512 + 3, x.sample(0, 0, 0));
        check.due("three in a row: 1", 524 - 5, x.sample(0, 1, 0));
        check.due("three in a row: 2", 512 + 3, x.sample(0, 2, 0));
    }

    /** Two samples that differ by d, side by side and one below the other, with others outside the picture. */
    private static void dueSoft(int strength, int ten, int d, int first, int second) {
        int middle = ten == 1 ? 512 : 128;
        for (int turn = 0; turn < 2; turn++) {
            FileMaker made = turn == 0 ? maker(2, 1) : maker(1, 2);
            made.soft = 1;
            made.ten = ten;
            made.strength = strength;
            int[] all = all(8);
            all[0] = 0;
            all[turn == 0 ? 1 : 4] = d;
            TileWriter tile = new TileWriter(false).symbol(0, 0).symbol(2, 0).differences(0, all);
            StillPicture x = fine("soft", made, tile);
            String what = "soft " + strength + ", " + d + ", turn " + turn;
            check.due(what + ": first", middle + first, x.sample(0, 0, 0));
            check.due(what + ": second", middle + second, x.sample(0, turn == 0 ? 1 : 0, turn));
        }
    }

    private static void answersOutsideThePicture() {
        FileMaker made = maker(5, 3);
        made.layout = 1;
        made.ten = 1;
        StillPicture x = fine("outside", made);
        check.due("outside: planes", 3, x.planes());
        check.due("outside: width", 5, x.width());
        check.due("outside: height", 3, x.height());
        check.due("outside: depth", 10, x.depth());
        check.due("last sample", true, x.sample(2, 4, 2) >= 0);
        int[][] none = {{-1, 0, 0}, {3, 0, 0}, {0, -1, 0}, {0, 5, 0}, {0, 0, -1}, {0, 0, 3},
            {Integer.MAX_VALUE, 0, 0}, {0, Integer.MAX_VALUE, 0}, {0, 0, Integer.MIN_VALUE}};
        for (int[] at : none) {
            check.due("no sample", -1, x.sample(at[0], at[1], at[2]));
        }
        check.due("last block", true, x.block(4, 2, 3) >= 0);
        int[][] noBlock = {{-1, 0, 0}, {5, 0, 0}, {0, -1, 0}, {0, 3, 0}, {0, 0, -1}, {0, 0, 4},
            {Integer.MIN_VALUE, 0, 0}, {0, Integer.MAX_VALUE, 0}, {0, 0, Integer.MAX_VALUE}};
        for (int[] at : noBlock) {
            check.due("no block", -1, x.block(at[0], at[1], at[2]));
        }
        int[][] noTable = {{-1, 0}, {19, 0}, {0, -1}, {0, 2}, {11, 16}, {18, 4}, {Integer.MAX_VALUE, 0},
            {Integer.MIN_VALUE, 0}, {0, Integer.MAX_VALUE}, {0, Integer.MIN_VALUE}};
        for (int[] at : noTable) {
            check.due("no table", -1, x.table(at[0], at[1]));
        }
        check.due("last of a table", 32768, x.table(18, 3));
        check.due("last of the longest table", 32768, x.table(12, 15));
    }

    /** What lies behind the frame's unit is not read as its tile: behind its end all bits are 0. */
    private static void tileEndsWithItsUnit() {
        FileMaker made = maker(8, 8);
        StillPicture alone = fine("tile alone", made);
        made.data = FileMaker.join(made.sequence(), made.frame(), FileMaker.list(255, 255, 255, 255));
        StillPicture followed = fine("tile followed", made);
        check.due("tile followed: symbols", alone.symbols(), followed.symbols());
        check.due("tile followed: taken", alone.taken(), followed.taken());
        check.due("tile followed: table", alone.table(8, 0), followed.table(8, 0));
        made.data = FileMaker.join(made.sequence(), FileMaker.lastUnit(6, made.frameBits(), FileMaker.list(255, 255)));
        StillPicture other = fine("tile of ones", made);
        check.due("tile of ones: size", 4, other.block(0, 0, 0));
        check.due("tile of ones: mode", 5, other.block(0, 0, 1));
    }

    private static void decodedTwice() {
        FileMaker made = maker(8, 8);
        made.tile = aroundTheLast(4).bytes();
        StillPicture x = fine("twice", made);
        int symbols = x.symbols();
        int taken = x.taken();
        int number = x.table(13, 1);
        check.due("twice: again", StillPicture.FINE, x.decode());
        check.due("twice: symbols", symbols, x.symbols());
        check.due("twice: taken", taken, x.taken());
        check.due("twice: table", number, x.table(13, 1));
        check.due("twice: blocks", 4, x.blocks());
        check.due("twice: sample", 134, x.sample(0, 7, 4));
    }
}
