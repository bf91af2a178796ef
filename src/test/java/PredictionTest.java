/**
 * PREDICTION, at its edges, and the samples that come of it. What is due was worked out from the
 * document by hand or by a small script, apart from the program.
 */
public final class PredictionTest {
    private static final Check check = new Check();
    private static final int[] ABOVE = {120, 128, 108, 140};
    private static final int[] LEFT = {100, 116, 132, 80};

    public static void main(String[] args) {
        firstUnit();
        besideTheLeftAlone();
        besideTheUpperAlone();
        besideBoth();
        besideBothOfTenBits();
        nearestInOrder();
        nearestByOne();
        nearestBesideOneSide();
        neighboursOutsideThePicture();
        roundedMeans();
        colourModes();
        shares();
        sharesOfEachUnit();
        planesAreApart();
        roundedShares();
        shareOfAMean();
        sharePredictionIsLimited();
        meanOfSamplesOutsideThePicture();
        samplesAreLimited();
        check.end();
    }

    private static FileMaker maker(int width, int height) {
        FileMaker made = new FileMaker();
        made.width = width;
        made.height = height;
        return made;
    }

    private static StillPicture fine(String what, FileMaker made, TileWriter tile) {
        made.tile = tile.bytes();
        StillPicture x = FileMaker.load(made.build());
        check.due(what, StillPicture.FINE, x.decode());
        check.due(what + ": symbols", tile.symbols(), x.symbols());
        return x;
    }

    private static void dueUnit(String what, StillPicture x, int p, int px, int py, int... want) {
        for (int i = 0; i < 16; i++) {
            check.due(what + ": sample " + i, want[i], x.sample(p, px + i % 4, py + i / 4));
        }
    }

    private static int[] all(int value) {
        int[] same = new int[16];
        java.util.Arrays.fill(same, value);
        return same;
    }

    /** The differences of a unit whose last row shall be above another, or whose last column beside it. */
    private static int[] lastRow(int[] wanted, int base) {
        int[] d = new int[16];
        for (int i = 0; i < 4; i++) {
            d[12 + i] = wanted[i] - base;
        }
        return d;
    }

    private static int[] lastColumn(int[] wanted, int base) {
        int[] d = new int[16];
        for (int i = 0; i < 4; i++) {
            d[4 * i + 3] = wanted[i] - base;
        }
        return d;
    }

    /** "else 2^(depth-1)": with nothing around it a unit is predicted as the middle, in each mode. */
    private static void firstUnit() {
        for (int ten = 0; ten < 2; ten++) {
            for (int mode = 0; mode < 6; mode++) {
                FileMaker made = maker(4, 4);
                made.ten = ten;
                StillPicture x = fine("first unit", made, new TileWriter(false).symbol(0, 0).symbol(2, mode).none(0));
                dueUnit("first unit, mode " + mode + ", ten " + ten, x, 0, 0, 0, all(ten == 1 ? 512 : 128));
                check.due("first unit: mode", mode, x.block(0, 0, 1));
            }
        }
    }

    /** "If y is 0: all A are L0 if x is not 0"; "C, if x or y is 0, is A0 if y is not 0, else L0" */
    private static void besideTheLeftAlone() {
        int[][] want = {
            all(104),
            all(100),
            {100, 100, 100, 100, 116, 116, 116, 116, 132, 132, 132, 132, 80, 80, 80, 80},
            {100, 100, 100, 100, 116, 116, 116, 116, 132, 132, 132, 132, 80, 80, 80, 80},
            {99, 99, 99, 99, 103, 101, 99, 97, 108, 104, 100, 96, 83, 85, 88, 90},
            all(100),
        };
        for (int mode = 0; mode < 6; mode++) {
            TileWriter tile = new TileWriter(false).symbol(0, 0).symbol(2, mode);
            tile.differences(0, lastColumn(LEFT, 128)).none(0);
            dueUnit("beside the left, mode " + mode, fine("beside the left", maker(8, 4), tile), 0, 4, 0, want[mode]);
        }
    }

    /** "If x is 0: all L are A0 if y is not 0" */
    private static void besideTheUpperAlone() {
        int[][] want = {
            all(122),
            {120, 128, 108, 140, 120, 128, 108, 140, 120, 128, 108, 140, 120, 128, 108, 140},
            all(120),
            {120, 128, 108, 140, 120, 128, 108, 140, 120, 128, 108, 140, 120, 128, 108, 140},
            {121, 127, 121, 138, 121, 126, 123, 135, 121, 125, 124, 133, 121, 124, 126, 130},
            {124, 118, 124, 140, 118, 124, 140, 140, 124, 140, 140, 140, 140, 140, 140, 140},
        };
        for (int mode = 0; mode < 6; mode++) {
            TileWriter tile = new TileWriter(false).symbol(0, 0).symbol(2, mode);
            tile.differences(0, lastRow(ABOVE, 128)).none(0);
            dueUnit("below the upper, mode " + mode, fine("below the upper", maker(4, 8), tile), 0, 0, 4, want[mode]);
        }
    }

    /** Four blocks, of which the last one has the samples around it that are given, and no differences. */
    private static StillPicture around(int ten, int[] above, int[] left, int corner, int mode) {
        int[] first = new int[16];
        first[15] = corner - (ten == 1 ? 512 : 128);
        TileWriter tile = new TileWriter(false).symbol(0, 1).symbol(1, 1);
        tile.symbol(2, 0).differences(0, first);
        tile.symbol(2, 2).differences(0, lastRow(above, corner));
        tile.symbol(2, 1).differences(0, lastColumn(left, corner));
        tile.symbol(5, mode).none(0);
        FileMaker made = maker(8, 8);
        made.ten = ten;
        StillPicture x = fine("around", made, tile);
        check.due("around: corner", corner, x.sample(0, 3, 3));
        for (int i = 0; i < 4; i++) {
            check.due("around: above " + i, above[i], x.sample(0, 4 + i, 3));
            check.due("around: left " + i, left[i], x.sample(0, 3, 4 + i));
        }
        return x;
    }

    private static void besideBoth() {
        int[][] want = {
            all(116),
            {120, 128, 108, 140, 120, 128, 108, 140, 120, 128, 108, 140, 120, 128, 108, 140},
            {100, 100, 100, 100, 116, 116, 116, 116, 132, 132, 132, 132, 80, 80, 80, 80},
            {112, 112, 100, 140, 120, 128, 112, 140, 132, 132, 132, 140, 80, 80, 80, 112},
            {110, 119, 115, 134, 112, 118, 114, 127, 114, 117, 114, 121, 86, 94, 101, 110},
            {124, 118, 124, 140, 118, 124, 140, 140, 124, 140, 140, 140, 140, 140, 140, 140},
        };
        for (int mode = 0; mode < 6; mode++) {
            StillPicture x = around(0, ABOVE, LEFT, 112, mode);
            dueUnit("beside both, mode " + mode, x, 0, 4, 4, want[mode]);
            check.due("beside both: mode", mode, x.block(7, 7, 1));
        }
    }

    private static void besideBothOfTenBits() {
        int[] above = {480, 1000, 20, 700};
        int[] left = {900, 40, 512, 1020};
        int[][] want = {
            all(584),
            {480, 1000, 20, 700, 480, 1000, 20, 700, 480, 1000, 20, 700, 480, 1000, 20, 700},
            {900, 900, 900, 900, 40, 40, 40, 40, 512, 512, 512, 512, 1020, 1020, 1020, 1020},
            {900, 1000, 900, 900, 300, 1000, 20, 300, 512, 1000, 300, 700, 1020, 1020, 1020, 1020},
            {711, 914, 460, 733, 403, 648, 424, 719, 677, 798, 637, 788, 966, 959, 858, 860},
            {740, 510, 360, 700, 510, 360, 700, 700, 360, 700, 700, 700, 700, 700, 700, 700},
        };
        for (int mode = 0; mode < 6; mode++) {
            dueUnit("ten bits, mode " + mode, around(1, above, left, 300, mode), 0, 4, 4, want[mode]);
        }
    }

    /** "of Lj, Ai, C, in this order, the first that is nearest": where two are equally near. */
    private static void nearestInOrder() {
        int[] above = {104, 92, 100, 96};
        int[] left = {92, 104, 100, 108};
        StillPicture x = around(0, above, left, 100, 3);
        dueUnit("nearest", x, 0, 4, 4, 92, 92, 92, 92, 104, 92, 104, 100, 104, 92, 100, 96, 108, 100, 108, 108);
        check.due("L before C", 92, x.sample(0, 4, 4));
        check.due("A before C", 92, x.sample(0, 5, 5));
    }

    /** The same with samples and a corner that need not be multiples of 4 apart. */
    private static StillPicture aroundByOne(int[] above, int[] left, int corner, int mode) {
        int[][] numbers = new int[3][16];
        numbers[0][15] = Painter.numberFor(corner - 128, false);
        for (int i = 0; i < 4; i++) {
            numbers[1][12 + i] = Painter.numberFor(above[i] - corner, false);
            numbers[2][4 * i + 3] = Painter.numberFor(left[i] - corner, false);
        }
        TileWriter tile = new TileWriter(false).symbol(0, 1).symbol(1, 1);
        tile.symbol(2, 0).symbol(10, 3).numbers(0, numbers[0]);
        tile.symbol(2, 2).symbol(10, 3).numbers(0, numbers[1]);
        tile.symbol(2, 1).symbol(10, 3).numbers(0, numbers[2]);
        tile.symbol(5, mode).symbol(10, 3).none(0);
        FileMaker made = maker(8, 8);
        made.q = 1;
        StillPicture x = fine("around by one", made, tile);
        check.due("around by one: corner", corner, x.sample(0, 3, 3));
        for (int i = 0; i < 4; i++) {
            check.due("around by one: above " + i, above[i], x.sample(0, 4 + i, 3));
            check.due("around by one: left " + i, left[i], x.sample(0, 3, 4 + i));
        }
        return x;
    }

    private static int firstNearest(int aim, int... values) {
        int found = values[0];
        for (int value : values) {
            if (Math.abs(value - aim) < Math.abs(found - aim)) {
                found = value;
            }
        }
        return found;
    }

    /** Each A and each L from 6 below C to 5 above it. */
    private static void nearestByOne() {
        for (int first = -6; first < 6; first += 4) {
            for (int second = -6; second < 6; second += 4) {
                int corner = 131;
                int[] above = {corner + first, corner + first + 1, corner + first + 2, corner + first + 3};
                int[] left = {corner + second, corner + second + 1, corner + second + 2, corner + second + 3};
                StillPicture x = aroundByOne(above, left, corner, 3);
                for (int n = 0; n < 16; n++) {
                    int a = above[n % 4];
                    int l = left[n / 4];
                    int want = firstNearest(a + l - corner, l, a, corner);
                    check.due("nearest of " + l + ", " + a + ", " + corner, want, x.sample(0, 4 + n % 4, 4 + n / 4));
                }
            }
        }
        int[] above = {130, 133, 136, 126};
        int[] left = {134, 128, 129, 132};
        // Told one by one, for the corner 131.
        dueUnit("nearest, told", aroundByOne(above, left, 131, 3), 0, 4, 4,
            134, 134, 136, 131, 128, 131, 131, 126, 129, 131, 136, 126, 131, 133, 136, 126);
    }

    /** "C, if x or y is 0, is A0 if y is not 0, else L0": so Ai + A0 - C is Ai, and Lj + L0 - C is Lj. */
    private static void nearestBesideOneSide() {
        for (int first = -3; first <= 3; first++) {
            int[] side = {128 + first, 128, 127, 129};
            int[] down = new int[16];
            int[] across = new int[16];
            for (int i = 0; i < 4; i++) {
                down[12 + i] = Painter.numberFor(side[i] - 128, false);
                across[4 * i + 3] = Painter.numberFor(side[i] - 128, false);
            }
            FileMaker high = maker(4, 8);
            high.q = 1;
            StillPicture x = fine("nearest below", high,
                new TileWriter(false).symbol(0, 0).symbol(2, 3).symbol(10, 3).numbers(0, down).none(0));
            FileMaker wide = maker(8, 4);
            wide.q = 1;
            StillPicture y = fine("nearest beside", wide,
                new TileWriter(false).symbol(0, 0).symbol(2, 3).symbol(10, 3).numbers(0, across).none(0));
            for (int n = 0; n < 16; n++) {
                check.due("nearest below, " + first, side[n % 4], x.sample(0, n % 4, 4 + n / 4));
                check.due("nearest beside, " + first, side[n / 4], y.sample(0, 4 + n % 4, n / 4));
            }
        }
    }

    /** "its 16 samples (also those outside the picture)": what is beside a unit may be outside. */
    private static void neighboursOutsideThePicture() {
        int[] down = {122, 120, 120, 120, 121, 124};
        int[] right = {104, 100, 100, 100, 99, 100};
        for (int mode = 0; mode < 6; mode++) {
            TileWriter above = new TileWriter(false).symbol(0, 0).symbol(2, mode);
            above.differences(0, lastRow(ABOVE, 128)).none(0);
            StillPicture x = fine("1 times 5", maker(1, 5), above);
            check.due("1 times 5, mode " + mode, down[mode], x.sample(0, 0, 4));
            TileWriter left = new TileWriter(false).symbol(0, 0).symbol(2, mode);
            left.differences(0, lastColumn(LEFT, 128)).none(0);
            StillPicture y = fine("5 times 1", maker(5, 1), left);
            check.due("5 times 1, mode " + mode, right[mode], y.sample(0, 4, 0));
        }
    }

    /** A tile of one block with two units; one number of the first comes to a difference at a place, the second has none. */
    private static TileWriter oneSample(int mode, int place, int difference) {
        int[] numbers = new int[16];
        numbers[place] = Painter.numberFor(difference, place == 0);
        return new TileWriter(false).symbol(0, 0).symbol(2, mode).symbol(10, 3).numbers(0, numbers).none(0);
    }

    /** "+ 4) >> 3", "+ 8) >> 4", "+ 1) >> 1": the samples around are 128, but one. */
    private static void roundedMeans() {
        for (int d = -40; d <= 40; d++) {
            FileMaker right = maker(8, 4);
            right.q = 1;
            StillPicture x = fine("mean", right, oneSample(0, 7, d));
            check.due("mode 0 by " + d, 128 + Math.floorDiv(d + 4, 8), x.sample(0, 4, 0));
            FileMaker below = maker(4, 8);
            below.q = 1;
            StillPicture y = fine("mean below", below, oneSample(0, 15, d));
            check.due("mode 0 below by " + d, 128 + Math.floorDiv(d + 4, 8), y.sample(0, 3, 7));
            StillPicture z = fine("blend", below, oneSample(4, 15, d));
            // A3 has a weight of 1 in the first column, and of 3, 5, and 7 and 7 - 2j in those behind it.
            check.due("mode 4 by " + d, 128 + Math.floorDiv(d + 8, 16), z.sample(0, 0, 4));
            check.due("mode 4 by " + d + ", next", 128 + Math.floorDiv(3 * d + 8, 16), z.sample(0, 1, 6));
            check.due("mode 4 by " + d + ", last", 128 + Math.floorDiv((7 + 1) * d + 8, 16), z.sample(0, 3, 7));
            StillPicture w = fine("middle", below, oneSample(5, 13, d));
            check.due("mode 5 by " + d, 128 + Math.floorDiv(d + 1, 2), w.sample(0, 0, 4));
            check.due("mode 5 by " + d + ", next", 128 + Math.floorDiv(d + 1, 2), w.sample(0, 1, 4));
            check.due("mode 5 by " + d + ", behind", 128, w.sample(0, 2, 4));
        }
    }

    /** "Mode, in planes 1, 2 the colour mode" */
    private static void colourModes() {
        int[][] want = {
            all(104),
            all(100),
            {100, 100, 100, 100, 116, 116, 116, 116, 132, 132, 132, 132, 80, 80, 80, 80},
            {100, 100, 100, 100, 116, 116, 116, 116, 132, 132, 132, 132, 80, 80, 80, 80},
            {99, 99, 99, 99, 103, 101, 99, 97, 108, 104, 100, 96, 83, 85, 88, 90},
            all(100),
        };
        int[] d = lastColumn(LEFT, 128);
        for (int mode = 0; mode < 6; mode++) {
            for (int colour = 0; colour < 6; colour++) {
                FileMaker made = maker(8, 4);
                made.layout = 1;
                TileWriter tile = new TileWriter(false).symbol(0, 0).symbol(2, mode).symbol(6, colour);
                for (int p = 0; p < 3; p++) {
                    tile.differences(p, d).none(p);
                }
                String what = "mode " + mode + ", colour mode " + colour;
                StillPicture x = fine(what, made, tile);
                check.due(what + ": mode", mode, x.block(5, 2, 1));
                check.due(what + ": colour mode", colour, x.block(5, 2, 2));
                dueUnit(what + ", plane 0", x, 0, 4, 0, want[mode]);
                dueUnit(what + ", plane 1", x, 1, 4, 0, want[colour]);
                dueUnit(what + ", plane 2", x, 2, 4, 0, want[colour]);
            }
        }
    }

    /** "two symbols of SHARE, less 3 each, are its SHARES of plane 1 and plane 2" */
    private static void shares() {
        int[] luma = {0, 0, 0, 0, 8, 8, 8, 8, -8, -8, -8, -8, 16, 16, 16, 16};
        // The mean of plane 0 is 132; its samples lie -4, 4, -12, 12 beside that.
        int[][] want = {
            {131, 125, 137, 119}, {130, 126, 134, 122}, {129, 127, 131, 125}, {128, 128, 128, 128},
            {127, 129, 125, 131}, {126, 130, 122, 134}, {125, 131, 119, 137},
        };
        for (int first = 0; first < 7; first++) {
            for (int second = 0; second < 7; second++) {
                FileMaker made = maker(4, 4);
                made.layout = 1;
                TileWriter tile = new TileWriter(false).symbol(0, 0).symbol(2, 1);
                tile.symbol(6, 6).symbol(7, first).symbol(7, second);
                tile.differences(0, luma).none(1).none(2);
                String what = "shares " + first + ", " + second;
                StillPicture x = fine(what, made, tile);
                check.due(what + ": mode", 1, x.block(0, 0, 1));
                check.due(what + ": colour mode", 6, x.block(0, 0, 2));
                for (int i = 0; i < 16; i++) {
                    check.due(what + ", plane 1", want[first][i / 4], x.sample(1, i % 4, i / 4));
                    check.due(what + ", plane 2", want[second][i / 4], x.sample(2, i % 4, i / 4));
                }
            }
        }
    }

    /**
     * Y and M are those of the unit itself, wherever it lies. Its samples in plane 0 are alike, but for
     * one that is 8 above and one that is 8 below, so that the last row and column are flat in all planes.
     */
    private static void sharesOfEachUnit() {
        int[] base = {128, 144, 112, 160};
        int[][] places = {{0, 5}, {1, 6}, {4, 9}, {2, 8}};
        FileMaker made = maker(8, 8);
        made.layout = 1;
        TileWriter tile = new TileWriter(false).symbol(0, 0).symbol(2, 0).symbol(6, 6).symbol(7, 5).symbol(7, 0);
        for (int unit = 0; unit < 4; unit++) {
            // Each unit is predicted as 128 in plane 0: the last one has 144 above and 112 beside it.
            int[] luma = all(base[unit] - 128);
            luma[places[unit][0]] += 8;
            luma[places[unit][1]] -= 8;
            tile.differences(0, luma);
        }
        for (int unit = 0; unit < 8; unit++) {
            tile.none(1 + unit / 4);
        }
        StillPicture x = fine("shares of units", made, tile);
        for (int unit = 0; unit < 4; unit++) {
            int[][] want = {all(base[unit]), all(128), all(128)};
            int high = places[unit][0];
            int low = places[unit][1];
            want[0][high] += 8;
            want[0][low] -= 8;
            // 18 and -14 by 4, for a share of 2; -22 and 26 by 4, for a share of -3.
            want[1][high] += 4;
            want[1][low] -= 4;
            want[2][high] -= 6;
            want[2][low] += 6;
            for (int p = 0; p < 3; p++) {
                dueUnit("shares of unit " + unit + ", plane " + p, x, p, unit % 2 * 4, unit / 2 * 4, want[p]);
            }
        }
    }

    /** The last samples of a plane and the first ones of the next, in a picture that fills all its room. */
    private static void planesAreApart() {
        int[] least = new int[16];
        int[] most = new int[16];
        least[0] = -4 * 20;
        most[0] = 4 * 40;
        FileMaker made = maker(16, 16);
        made.layout = 1;
        TileWriter tile = new TileWriter(false).symbol(0, 0).symbol(2, 0).symbol(6, 0);
        for (int unit = 0; unit < 48; unit++) {
            tile.numbers(unit / 16, unit % 16 == 0 ? least : unit % 16 == 15 ? most : new int[16]);
        }
        StillPicture x = fine("planes", made, tile);
        for (int p = 0; p < 3; p++) {
            dueUnit("first unit of plane " + p, x, p, 0, 0, all(108));
            dueUnit("a unit of plane " + p, x, p, 8, 12, all(108));
            dueUnit("last unit of plane " + p, x, p, 12, 12, all(148));
        }
    }

    /** "(share * (Y - M) + 2) >> 2", with samples on both sides of M, so that it is 128; then with one alone. */
    private static void roundedShares() {
        for (int share = -3; share <= 3; share++) {
            for (int d = -9; d <= 9; d++) {
                int[] numbers = new int[16];
                numbers[5] = Painter.numberFor(d, false);
                numbers[10] = Painter.numberFor(-d, false);
                StillPicture x = shared(share, numbers);
                String what = "share " + share + " of " + d;
                check.due(what, 128 + Math.floorDiv(share * d + 2, 4), x.sample(1, 1, 1));
                check.due(what + ", the other way", 128 + Math.floorDiv(-share * d + 2, 4), x.sample(1, 2, 2));
                check.due(what + ", others", 128, x.sample(1, 0, 0));
            }
        }
        for (int d = -30; d <= 30; d++) {
            int[] numbers = new int[16];
            numbers[5] = Painter.numberFor(d, false);
            StillPicture x = shared(3, numbers);
            int mean = Math.floorDiv(d + 8, 16);
            check.due("mean of " + d + ", others", 128 + Math.floorDiv(-3 * mean + 2, 4), x.sample(1, 0, 0));
            check.due("mean of " + d, 128 + Math.floorDiv(3 * (d - mean) + 2, 4), x.sample(1, 1, 1));
        }
    }

    private static StillPicture shared(int share, int[] numbers) {
        FileMaker made = maker(4, 4);
        made.layout = 1;
        made.q = 1;
        TileWriter tile = new TileWriter(false).symbol(0, 0).symbol(2, 0).symbol(6, 6).symbol(7, share + 3).symbol(7, 3);
        return fine("shared", made, tile.symbol(10, 3).numbers(0, numbers).none(1).none(2));
    }

    /** "M = (the sum of the 16 samples of plane 0 of the unit + 8) >> 4" */
    private static void shareOfAMean() {
        dueMean(4, 128, 131);
        dueMean(8, 127, 133);
        dueMean(-8, 128, 122);
        dueMean(-12, 128 + 1, 128 - 8);
    }

    /** One sample of plane 0 differs; the others and that one in plane 1, by a share of 3. */
    private static void dueMean(int difference, int others, int one) {
        FileMaker made = maker(4, 4);
        made.layout = 1;
        int[] luma = new int[16];
        luma[6] = difference;
        TileWriter tile = new TileWriter(false).symbol(0, 0).symbol(2, 0).symbol(6, 6).symbol(7, 6).symbol(7, 3);
        StillPicture x = fine("mean", made, tile.differences(0, luma).none(1).none(2));
        for (int i = 0; i < 16; i++) {
            check.due("mean of a difference " + difference + ": " + i, i == 6 ? one : others, x.sample(1, i % 4, i / 4));
        }
        dueUnit("no share", x, 2, 0, 0, all(128));
    }

    /** "that is made 0 or 2^depth - 1 where below or above", before the difference is added. */
    private static void sharePredictionIsLimited() {
        int[] halves = {-128, -128, 128, 128, -128, -128, 128, 128, -128, -128, 128, 128, -128, -128, 128, 128};
        FileMaker made = maker(8, 4);
        made.layout = 1;
        TileWriter tile = new TileWriter(false).symbol(0, 0).symbol(2, 0).symbol(6, 6).symbol(7, 6).symbol(7, 0);
        tile.none(0).differences(0, halves);
        tile.differences(1, all(112)).differences(1, all(-8));
        tile.differences(2, all(-112)).differences(2, all(8));
        StillPicture x = fine("limited", made, tile);
        dueUnit("limited: plane 1, first", x, 1, 0, 0, all(240));
        dueUnit("limited: plane 2, first", x, 2, 0, 0, all(16));
        for (int i = 0; i < 16; i++) {
            boolean isDark = i % 4 < 2;
            check.due("limited: plane 0", isDark ? 0 : 255, x.sample(0, 4 + i % 4, i / 4));
            // 240 - 96 and 240 + 95, which is more than 255; 16 + 96 and 16 - 95.
            check.due("limited: plane 1", isDark ? 136 : 247, x.sample(1, 4 + i % 4, i / 4));
            check.due("limited: plane 2", isDark ? 120 : 8, x.sample(2, 4 + i % 4, i / 4));
        }
    }

    private static void meanOfSamplesOutsideThePicture() {
        FileMaker made = maker(1, 1);
        made.layout = 1;
        int[] luma = all(16);
        luma[0] = 0;
        TileWriter tile = new TileWriter(false).symbol(0, 0).symbol(2, 0).symbol(6, 6).symbol(7, 6).symbol(7, 0);
        StillPicture x = fine("1 times 1", made, tile.differences(0, luma).none(1).none(2));
        check.due("1 times 1: plane 0", 128, x.sample(0, 0, 0));
        check.due("1 times 1: plane 1", 117, x.sample(1, 0, 0));
        check.due("1 times 1: plane 2", 139, x.sample(2, 0, 0));
    }

    /** "made 0 or 2^depth - 1 where below or above" */
    private static void samplesAreLimited() {
        for (int ten = 0; ten < 2; ten++) {
            int top = ten == 1 ? 1023 : 255;
            int middle = ten == 1 ? 512 : 128;
            int[] most = {-middle - 4, -middle, -middle + 4, 0, middle - 4, middle, middle + 4, 2000, -2000, 4, 8, -4, 0, 0, 0, 0};
            int[] want = {0, 0, 4, middle, top - 3, top, top, top, 0, middle + 4, middle + 8, middle - 4,
                middle, middle, middle, middle};
            FileMaker made = maker(4, 4);
            made.ten = ten;
            TileWriter tile = new TileWriter(false).symbol(0, 0).symbol(2, 0).differences(0, most);
            StillPicture x = fine("limits", made, tile);
            check.due("limits: depth", ten == 1 ? 10 : 8, x.depth());
            dueUnit("limits, ten " + ten, x, 0, 0, 0, want);
        }
        // One above and one below what can be, by differences of 1.
        for (int d = 126; d <= 129; d++) {
            FileMaker made = maker(4, 4);
            made.q = 1;
            int[] numbers = new int[16];
            numbers[1] = Painter.numberFor(d, false);
            numbers[2] = Painter.numberFor(-d, false);
            TileWriter tile = new TileWriter(false).symbol(0, 0).symbol(2, 0).symbol(10, 3).numbers(0, numbers);
            StillPicture x = fine("limits by 1", made, tile);
            check.due("128 + " + d, Math.min(255, 128 + d), x.sample(0, 1, 0));
            check.due("128 - " + d, Math.max(0, 128 - d), x.sample(0, 2, 0));
        }
    }
}
