/**
 * DIFFERENCES, at their edges: how numbers are read, scaled, limited and transformed. What is due
 * was worked out from the document by hand or by a small script, apart from the program.
 */
public final class DifferencesTest {
    private static final Check check = new Check();
    private static final int[] PLACES = {0, 1, 4, 8, 5, 2, 3, 6, 9, 12, 13, 10, 7, 11, 14, 15};
    private static final int[] ANY = {5, -3, 2, 0, 7, 0, -1, 0, 0, 4, 0, 0, -6, 0, 0, 1};

    /** What these numbers come to with Q 7, by TYPE. */
    private static final int[][] BY_TYPE = {
        {9, 7, 7, 7, 5, 9, 12, 21, -11, -12, -4, 2, 2, -3, -5, 0},
        {15, 2, 1, 1, 24, -11, 2, -2, -13, -11, 4, 2, -4, 2, 5, -1},
        {3, 0, 5, 15, 9, 12, 12, 9, 8, 3, -3, -8, -8, -11, -7, -10},
        {11, -9, 6, 0, 22, 0, -3, 0, 0, 12, 0, 0, -19, 0, 0, 3},
    };

    /**
     * TYPE, a sample, its difference, and the numbers at some places, with Q 1 and 10 bits, so chosen
     * that one of the numbers a, b, c, 2896 would not have to be greater or less by more than 1 to be seen.
     */
    private static final int[][] FACTORS = {
        {2, 0, 0, 0, -3083, 1, -2466, 2, 3822, 3, 3775},
        {2, 0, 0, 0, -4463, 1, 4258, 2, -3545, 3, 3339},
        {2, 1, 0, 0, 3390, 1, -4105, 2, -4333, 3, 3840},
        {2, 1, 0, 0, 4318, 1, -4420, 2, -3832, 3, 3935},
        {2, 2, 0, 0, -3746, 1, -4054, 2, 3547, 3, 3493},
        {2, 2, 0, 0, 3507, 1, 2836, 2, -2874, 3, -3326},
        {2, 3, 0, 0, -3667, 1, -3440, 2, -3235, 3, -3481},
        {2, 3, 0, 0, -3631, 1, -3052, 2, -3222, 3, -4336},
        {1, 0, 0, 0, -2312, 4, -2089, 8, 3154, 12, 2879},
        {1, 0, 0, 0, 2321, 4, 1727, 8, -3133, 12, -2056},
        {1, 4, 0, 0, 2840, 4, -2355, 8, -2310, 12, 2656},
        {1, 4, 0, 0, 2748, 4, -2433, 8, -2991, 12, 3084},
        {1, 8, 0, 0, -2061, 4, -2286, 8, 2862, 12, 2596},
        {1, 8, 0, 0, 2833, 4, 2273, 8, -2121, 12, -2540},
        {1, 12, 0, 0, -2833, 4, -2922, 8, -3155, 12, -3263},
        {1, 12, 0, 0, -2803, 4, -2499, 8, -2310, 12, -2674},
    };
    /** Likewise, if a limit, of numbers or of rows, were greater or less by 1. */
    private static final int[][] LIMITS = {
        {2, 15, -226, 13, 4175, 14, 4829, 15, -478},
        {0, 5, -137, 5, 6384, 13, 2828},
        {0, 9, -83, 3, -2895, 13, -4983, 14, 651},
        {0, 6, 323, 0, -5963, 11, -4591, 12, -120},
        {1, 7, -121, 2, -2882, 3, 3032, 11, 3902, 13, 2133},
        {1, 3, 340, 3, 4423, 7, -3968, 9, -3558, 15, 3382},
        {0, 3, -44, 5, -3439, 8, -2205, 9, 4372, 15, -1879},
        {0, 0, -115, 1, 2822, 8, -633, 12, -2061, 13, -4630},
    };
    /** Likewise, if one place were not limited: of the numbers, in their order, then of the rows. */
    private static final int[][] LIMITED_PLACES = {
        {0, 4, -132, 0, 7910, 13, 3096},
        {0, 1, 182, 1, -7718, 8, 3364},
        {0, 3, 380, 2, 5737, 13, 4166},
        {0, 0, -165, 3, -5669, 11, 3284},
        {0, 5, 387, 4, -6059, 14, 3294},
        {0, 5, 172, 5, -7452, 9, -3987},
        {0, 2, -120, 6, -6436, 7, -3905},
        {0, 5, 268, 1, -3853, 7, -7697},
        {0, 2, -223, 7, -3338, 8, 6716},
        {0, 0, 132, 5, 3936, 9, -6005},
        {0, 1, -71, 4, -3832, 10, -6577},
        {0, 0, 102, 7, 4240, 11, -7238},
        {0, 0, -275, 8, -3789, 12, 5954},
        {0, 3, 157, 10, 4025, 13, 7350},
        {0, 1, -196, 9, 3023, 14, 5915},
        {0, 0, 62, 14, 3055, 15, -7568},
        {0, 8, 81, 1, 3054, 2, 2770, 6, 535, 12, -4563},
        {1, 9, 188, 1, -3775, 6, -3266, 12, -795, 13, 2862},
        {1, 6, -312, 2, -4062, 5, 2283, 13, 384, 14, -1988},
        {0, 11, 111, 1, -3811, 2, 4308, 14, -2286, 15, 4422},
        {0, 8, 161, 5, -3277, 6, -2480, 9, 3642, 14, 1464},
        {1, 5, -207, 5, -4230, 12, -80, 13, -1009},
        {1, 6, -237, 4, 3735, 6, -4285, 10, -1250},
        {1, 7, -99, 7, 3752, 13, 3051, 15, 1543},
        {0, 12, -303, 3, 305, 6, -3879, 8, -4547, 11, -4459},
        {1, 5, 0, 1, -3827, 2, -3989, 8, -1211, 9, -3842},
        {0, 6, -114, 3, 4667, 9, -539, 10, -4382, 11, 2546},
        {0, 7, -193, 5, -3343, 8, 2966, 9, -4308, 14, -2581},
        {1, 0, -213, 7, 3487, 8, -2279, 12, 4465, 13, 268},
        {1, 1, -274, 3, -2089, 5, 891, 13, -3396, 15, 1574},
        {0, 14, 342, 2, 2018, 12, -4354, 13, -935, 15, -2180},
        {1, 3, -203, 6, -2234, 7, 1015, 13, 1817, 15, -4154},
    };
    /** Likewise, if 2048 were greater or less by 1. */
    private static final int[][] ROUNDED = {
        {0, 3, 1, 1, 25, 3, -15, 11, -58},
        {0, 12, 13, 1, 12, 2, 2, 5, -23},
        {1, 11, 345, 3, 2264, 7, 2729},
        {1, 4, 199, 8, 2220, 12, -2048},
        {0, 2, -8, 9, 54, 12, 52, 15, -47},
        {0, 2, 10, 0, 19, 4, 45, 5, 45},
    };

    public static void main(String[] args) {
        zeroEndsTheUnit();
        lastPlace();
        sizeTablesByPlace();
        sizesOfTheLastPlaceAndOfOthers();
        zerosOfANumber();
        greatestNumbers();
        thirteenZeros();
        thirteenZerosAnywhere();
        signs();
        placesInTheUnit();
        mixed();
        mixedRoundsDown();
        scaled();
        transformed();
        types();
        typeOfEachBlock();
        limits();
        closeCalls("factor", FACTORS);
        closeCalls("limit", LIMITS);
        closeCalls("limited place", LIMITED_PLACES);
        closeCalls("rounding", ROUNDED);
        check.end();
    }

    private static StillPicture fine(String what, int q, int ten, TileWriter tile) {
        FileMaker made = new FileMaker();
        made.width = 4;
        made.height = 4;
        made.q = q;
        made.ten = ten;
        made.tile = tile.bytes();
        StillPicture x = FileMaker.load(made.build());
        check.due(what, StillPicture.FINE, x.decode());
        check.due(what + ": symbols", tile.symbols(), x.symbols());
        return x;
    }

    /** The beginning of a tile of one block, up to its differences. */
    private static TileWriter block(int q, int type) {
        TileWriter tile = new TileWriter(false).symbol(0, 0).symbol(2, 0);
        return q == 0 ? tile : tile.symbol(10, type);
    }

    private static StillPicture of(String what, int q, int type, int... numbers) {
        return fine(what, q, 0, block(q, type).numbers(0, numbers));
    }

    private static void dueUnit(String what, StillPicture x, int... difference) {
        for (int i = 0; i < 16; i++) {
            check.due(what + ": sample " + i, 128 + difference[i], x.sample(0, i % 4, i / 4));
        }
    }

    private static int[] only(int place, int value) {
        int[] numbers = new int[16];
        numbers[place] = value;
        return numbers;
    }

    /** What c0 of a table of 4 is behind a count of symbols 0, of which there are at most 16. */
    private static int growth(int count) {
        int c = 8192;
        for (int i = 0; i < count; i++) {
            c += (32768 - c) >> 4;
        }
        return c;
    }

    /** "A symbol of ZERO: 1: all differences are 0, and no more is read." */
    private static void zeroEndsTheUnit() {
        StillPicture x = fine("ZERO 1", 0, 0, block(0, 0).symbol(8, 1));
        dueUnit("ZERO 1", x, new int[16]);
        check.due("ZERO 1: symbols", 3, x.symbols());
        check.due("ZERO 1: table of ZERO", 15360, x.table(8, 0));
        check.due("ZERO 1: table of LAST", 2048, x.table(11, 0));
        check.due("ZERO 1: table of SIZE", 8192, x.table(13, 0));
        StillPicture y = fine("ZERO 0", 0, 0, block(0, 0).symbol(8, 0).symbol(11, 0).symbol(13, 0).bit(0));
        check.due("ZERO 0: symbols", 6, y.symbols());
        check.due("ZERO 0: table of ZERO", 17408, y.table(8, 0));
    }

    /** "a symbol of LAST is the last place t; then for the places k = t, .., 0" */
    private static void lastPlace() {
        for (int t = 0; t < 16; t++) {
            TileWriter tile = block(4, 3).symbol(8, 0).symbol(11, t);
            for (int k = t; k >= 0; k--) {
                tile.symbol(k == 0 ? 13 : k <= 5 ? 14 : 15, 0);
                if (k == t) {
                    tile.bit(0);
                }
            }
            StillPicture x = fine("LAST " + t, 4, 0, tile);
            check.due("LAST " + t + ": symbols", 7 + t, x.symbols());
            // At the last place one is added, at the others there is nothing: 16 * 1 comes to 2.
            dueUnit("LAST " + t, x, only(PLACES[t], 2));
        }
    }

    /** "of the first, second or third of the plane's three for k = 0, k = 1 .. 5, other k" */
    private static void sizeTablesByPlace() {
        for (int t = 0; t < 16; t++) {
            for (int p = 0; p < 3; p++) {
                FileMaker made = new FileMaker();
                made.width = 4;
                made.height = 4;
                made.layout = 1;
                TileWriter tile = new TileWriter(false).symbol(0, 0).symbol(2, 0).symbol(6, 0);
                for (int plane = 0; plane < 3; plane++) {
                    tile.numbers(plane, plane == p ? only(PLACES[t], 1) : new int[16]);
                }
                made.tile = tile.bytes();
                StillPicture x = FileMaker.load(made.build());
                String what = "LAST " + t + " of plane " + p;
                check.due(what, StillPicture.FINE, x.decode());
                for (int table = 13; table <= 18; table++) {
                    boolean isOfPlane = table >= 16 == p > 0;
                    int kind = (table - 13) % 3;
                    int uses = kind == 0 ? 1 : kind == 1 ? Math.min(t, 5) : Math.max(t - 5, 0);
                    check.due(what + ": table " + table, growth(isOfPlane ? uses : 0), x.table(table, 0));
                }
                check.due(what + ": ZERO of plane 0", p == 0 ? 17408 : 15360, x.table(8, 0));
                dueLast(what + ": LAST of plane 0", x, 11, p == 0 ? t : -1);
                dueLast(what + ": LAST of planes 1, 2", x, 12, p != 0 ? t : -1);
            }
        }
    }

    /** The first and the last but one of a table of LAST with which t was read, or nothing if t is -1. */
    private static void dueLast(String what, StillPicture x, int table, int t) {
        check.due(what + ", first", t < 0 ? 2048 : t == 0 ? 2048 + 960 : 2048 - 64, x.table(table, 0));
        check.due(what + ", last but one", t < 0 ? 30720 : t < 15 ? 30720 + 64 : 30720 - 960, x.table(table, 14));
    }

    /** "if k is t one is added to m" */
    private static void sizesOfTheLastPlaceAndOfOthers() {
        for (int m = 1; m <= 40; m++) {
            StillPicture x = of("last " + m, 0, 0, only(0, 4 * m));
            dueUnit("last " + m, x, all(m));
            int[] two = only(4, 4);
            two[0] = 4 * m;
            int[] want = all(m + 1);
            for (int i = 8; i < 16; i++) {
                want[i] = m - 1;
            }
            dueUnit("other " + m, of("other " + m, 0, 0, two), want);
        }
    }

    private static int[] all(int value) {
        int[] same = new int[16];
        java.util.Arrays.fill(same, value);
        return same;
    }

    /** "there being o zeros, o bits more are read, the highest first, as a number d, and 2^o - 1 + d is added to m" */
    private static void zerosOfANumber() {
        for (int zeros = 0; zeros <= 9; zeros++) {
            for (int d = 0; d < 1 << zeros; d += Math.max(1, (1 << zeros) / 5)) {
                dueNumber(zeros, d);
            }
            dueNumber(zeros, (1 << zeros) - 1);
        }
    }

    private static void dueNumber(int zeros, int d) {
        TileWriter tile = block(0, 0).symbol(8, 0).symbol(11, 0).symbol(13, 3);
        for (int i = 0; i < zeros; i++) {
            tile.bit(0);
        }
        tile.bit(1);
        for (int i = zeros - 1; i >= 0; i--) {
            tile.bit((d >> i) & 1);
        }
        tile.bit(0);
        int m = 4 + (1 << zeros) - 1 + d;
        String what = zeros + " zeros, d " + d;
        StillPicture x = fine(what, 0, 1, tile);
        check.due(what, Math.min(1023, 512 + (m >> 2)), x.sample(0, 3, 3));
    }

    /** Numbers with 10, 11 and 12 zeros, of which all but little is taken away by others. */
    private static void greatestNumbers() {
        dueSum("10 zeros, least", 1, 1026, -1025, 3, 0);
        dueSum("10 zeros, greatest", 1, 2049, -1025, -1020, 0);
        dueSum("11 zeros, least", 1, 2050, -2049, 3, 0);
        dueSum("11 zeros, greatest", -1, 4097, -2049, -2049, 0);
        dueSum("12 zeros, least", 1, 4098, -4097, 3, 0);
        dueSum("12 zeros, greatest", 2, 8193, -4097, -4088, 0);
        dueSum("12 zeros, greatest, at the last place", 0, -4097, -2049, -2045, 8194);
        dueSum("12 zeros, greatest, below 0", -1, 4097, 2049, 2047, -8194);
    }

    /** With Q 0 the first sample is the sum of all numbers, by 4. */
    private static void dueSum(String what, int want, int first, int second, int third, int fourth) {
        int[] numbers = new int[16];
        numbers[0] = first;
        numbers[1] = second;
        numbers[4] = third;
        numbers[8] = fourth;
        check.due(what, (first + second + third + fourth) >> 2, want);
        check.due(what, 128 + want, of(what, 0, 0, numbers).sample(0, 0, 0));
    }

    /** "DATA if 13 of them are 0 before it" */
    private static void thirteenZeros() {
        for (int zeros = 11; zeros <= 15; zeros++) {
            for (int last = 0; last < 2; last++) {
                TileWriter tile = block(0, 0).symbol(8, 0).symbol(11, 0).symbol(13, 3);
                for (int i = 0; i < zeros; i++) {
                    tile.bit(0);
                }
                tile.bit(1);
                for (int i = 0; i < 13; i++) {
                    tile.bit(last);
                }
                FileMaker made = new FileMaker();
                made.width = 4;
                made.height = 4;
                made.tile = tile.bytes();
                StillPicture x = FileMaker.load(made.build());
                String what = zeros + " zeros, then " + last;
                check.due(what, zeros < 13 ? StillPicture.FINE : StillPicture.DATA, x.decode());
                check.due(what + ": width", zeros < 13 ? 4 : 0, x.width());
                check.due(what + ": sample", zeros >= 13 ? -1 : last == 1 ? 0 : 255, x.sample(0, 0, 0));
                check.due(what + ": symbols", zeros < 13 ? 5 + zeros + 1 + zeros + 1 : 0, x.symbols());
            }
        }
    }

    /** The same at each place of a unit, in the last unit of the last plane too. */
    private static void thirteenZerosAnywhere() {
        for (int zeros = 12; zeros <= 13; zeros++) {
            for (int k = 0; k < 16; k++) {
                for (int p = 0; p < 3; p++) {
                    FileMaker made = new FileMaker();
                    made.width = 5;
                    made.height = 4;
                    made.layout = 1;
                    made.tile = zerosAt(zeros, k, p).bytes();
                    StillPicture x = FileMaker.load(made.build());
                    String what = zeros + " zeros at " + k + " of plane " + p;
                    check.due(what, zeros < 13 ? StillPicture.FINE : StillPicture.DATA, x.decode());
                    check.due(what + ": planes", zeros < 13 ? 3 : 0, x.planes());
                }
            }
        }
    }

    private static TileWriter zerosAt(int zeros, int k, int p) {
        TileWriter tile = new TileWriter(false).symbol(0, 0).symbol(2, 0).symbol(6, 0);
        for (int plane = 0; plane < p; plane++) {
            tile.none(plane).none(plane);
        }
        int second = p == 0 ? 0 : 1;
        tile.none(p).symbol(8 + second, 0).symbol(11 + second, 15);
        for (int i = 15; i >= k; i--) {
            tile.symbol(13 + 3 * second + (i == 0 ? 0 : i <= 5 ? 1 : 2), i == k ? 3 : 0);
            if (i == 15 && k != 15) {
                tile.bit(0);
            }
        }
        for (int i = 0; i < zeros; i++) {
            tile.bit(0);
        }
        return tile.bit(1);
    }

    /** "If m is not 0, a bit follows: 1: m is made negative." */
    private static void signs() {
        for (int m = -9; m <= 9; m++) {
            StillPicture x = of("sign of " + m, 0, 0, only(0, 4 * m));
            dueUnit("sign of " + m, x, all(m));
        }
        TileWriter tile = block(0, 0).symbol(8, 0).symbol(11, 1).symbol(14, 3).bit(1).bit(1).symbol(13, 0);
        StillPicture x = fine("no sign for 0", 0, 0, tile);
        check.due("no sign for 0: symbols", 8, x.symbols());
        dueUnit("no sign for 0", x, -1, -1, 1, 1, -1, -1, 1, 1, -1, -1, 1, 1, -1, -1, 1, 1);
    }

    /** "The places 0 .. 15 lie in the unit (4 * row + column) at .." */
    private static void placesInTheUnit() {
        int[] values = {0, 1, 5, 6, 2, 4, 7, 12, 3, 8, 11, 13, 9, 10, 14, 15};
        // Told one by one, not by the writer, so that the order of places is the document's.
        TileWriter tile = block(4, 3).symbol(8, 0).symbol(11, 15);
        for (int k = 15; k >= 0; k--) {
            int size = k == 15 ? k - 1 : k;
            tile.symbol(k == 0 ? 13 : k <= 5 ? 14 : 15, Math.min(size, 3));
            if (size >= 3) {
                int zeros = size - 2 >= 8 ? 3 : size - 2 >= 4 ? 2 : size - 2 >= 2 ? 1 : 0;
                for (int i = 0; i < zeros; i++) {
                    tile.bit(0);
                }
                for (int i = zeros; i >= 0; i--) {
                    tile.bit(((size - 2) >> i) & 1);
                }
            }
            if (k != 0) {
                tile.bit(k & 1);
            }
        }
        int[] want = new int[16];
        for (int i = 0; i < 16; i++) {
            want[i] = (values[i] % 2 == 1 ? -2 : 2) * values[i];
        }
        dueUnit("places", fine("places", 4, 0, tile), want);
    }

    /** "Q is 0: each row, then each column x0 .. x3 becomes .." */
    private static void mixed() {
        int[][] sixes = {
            {1, 1, 1, 1, 1, 1, 1, 1, 1, 1, 1, 1, 1, 1, 1, 1},
            {1, 1, -2, -2, 1, 1, -2, -2, 1, 1, -2, -2, 1, 1, -2, -2},
            {1, -2, -2, 1, 1, -2, -2, 1, 1, -2, -2, 1, 1, -2, -2, 1},
            {1, -2, 1, -2, 1, -2, 1, -2, 1, -2, 1, -2, 1, -2, 1, -2},
            {1, 1, 1, 1, 1, 1, 1, 1, -2, -2, -2, -2, -2, -2, -2, -2},
            {1, 1, -2, -2, 1, 1, -2, -2, -2, -2, 1, 1, -2, -2, 1, 1},
            {1, -2, -2, 1, 1, -2, -2, 1, -2, 1, 1, -2, -2, 1, 1, -2},
            {1, -2, 1, -2, 1, -2, 1, -2, -2, 1, -2, 1, -2, 1, -2, 1},
            {1, 1, 1, 1, -2, -2, -2, -2, -2, -2, -2, -2, 1, 1, 1, 1},
            {1, 1, -2, -2, -2, -2, 1, 1, -2, -2, 1, 1, 1, 1, -2, -2},
            {1, -2, -2, 1, -2, 1, 1, -2, -2, 1, 1, -2, 1, -2, -2, 1},
            {1, -2, 1, -2, -2, 1, -2, 1, -2, 1, -2, 1, 1, -2, 1, -2},
            {1, 1, 1, 1, -2, -2, -2, -2, 1, 1, 1, 1, -2, -2, -2, -2},
            {1, 1, -2, -2, -2, -2, 1, 1, 1, 1, -2, -2, -2, -2, 1, 1},
            {1, -2, -2, 1, -2, 1, 1, -2, 1, -2, -2, 1, -2, 1, 1, -2},
            {1, -2, 1, -2, -2, 1, -2, 1, 1, -2, 1, -2, -2, 1, -2, 1},
        };
        for (int place = 0; place < 16; place++) {
            dueUnit("Q 0, place " + place, of("Q 0", 0, 0, only(place, 6)), sixes[place]);
        }
        dueUnit("Q 0, any", of("Q 0, any", 0, 0, ANY), 2, 1, 1, 1, 2, 2, 5, 6, -3, -5, -1, 0, 1, 0, -1, 1);
    }

    /** "a >> n" rounds down, also below 0. */
    private static void mixedRoundsDown() {
        int[] want = {-3, -2, -2, -2, -2, -1, -1, -1, -1, 0, 0, 0, 0, 1, 1, 1, 1, 2, 2};
        for (int m = -9; m <= 9; m++) {
            dueUnit("Q 0, number " + m, of("Q 0", 0, 0, only(0, m)), all(want[m + 9]));
        }
    }

    /** "place 0 is multiplied by 4 + 2 * Q, the others by 4 + 3 * Q"; "(that + 8) >> 4" */
    private static void scaled() {
        dueScaled(1, new int[] {-4, -4, -3, -2, -1, -1, 0, 1, 2, 2, 3, 4, 5}, new int[] {-5, -4, -4, -3, -2, -1, 0, 1, 2, 3, 4, 4, 5});
        dueScaled(10, new int[] {-18, -15, -12, -9, -6, -3, 0, 3, 6, 9, 12, 15, 18},
            new int[] {-26, -21, -17, -13, -8, -4, 0, 4, 9, 13, 17, 21, 26});
        dueScaled(63, new int[] {-97, -81, -65, -49, -32, -16, 0, 16, 33, 49, 65, 81, 98},
            new int[] {-145, -121, -96, -72, -48, -24, 0, 24, 48, 72, 97, 121, 145});
    }

    private static void dueScaled(int q, int[] first, int[] other) {
        for (int m = -6; m <= 6; m++) {
            StillPicture x = of("Q " + q, q, 3, only(0, m));
            check.due("Q " + q + ", " + m + " at place 0", 128 + first[m + 6], x.sample(0, 0, 0));
            check.due("Q " + q + ", " + m + ": others", 128, x.sample(0, 1, 0));
            for (int place = 1; place < 16; place++) {
                StillPicture y = of("Q " + q, q, 3, only(place, m));
                int want = Math.max(0, Math.min(255, 128 + other[m + 6]));
                check.due("Q " + q + ", " + m + " at place " + place, want, y.sample(0, place % 4, place / 4));
                check.due("Q " + q + ", " + m + " not at 0", 128, y.sample(0, 0, 0));
            }
        }
    }

    /** "yi = (2896 * x0 + a * x1 + b * x2 + c * x3 + 2048) >> 12" */
    private static void transformed() {
        int[][] tens = {
            {14, 14, 14, 14, 14, 14, 14, 14, 14, 14, 14, 14, 14, 14, 14, 14},
            {26, 11, -11, -26, 26, 11, -11, -26, 26, 11, -11, -26, 26, 11, -11, -26},
            {20, -20, -20, 20, 20, -20, -20, 20, 20, -20, -20, 20, 20, -20, -20, 20},
            {11, -26, 26, -11, 11, -26, 26, -11, 11, -26, 26, -11, 11, -26, 26, -11},
            {26, 26, 26, 26, 11, 11, 11, 11, -11, -11, -11, -11, -26, -26, -26, -26},
            {34, 14, -14, -34, 14, 6, -6, -14, -14, -6, 6, 14, -34, -14, 14, 34},
            {26, -26, -26, 26, 11, -11, -11, 11, -11, 11, 11, -11, -26, 26, 26, -26},
            {14, -34, 34, -14, 6, -14, 14, -6, -6, 14, -14, 6, -14, 34, -34, 14},
            {20, 20, 20, 20, -20, -20, -20, -20, -20, -20, -20, -20, 20, 20, 20, 20},
            {26, 11, -11, -26, -26, -11, 11, 26, -26, -11, 11, 26, 26, 11, -11, -26},
            {20, -20, -20, 20, -20, 20, 20, -20, -20, 20, 20, -20, 20, -20, -20, 20},
            {11, -26, 26, -11, -11, 26, -26, 11, -11, 26, -26, 11, 11, -26, 26, -11},
            {11, 11, 11, 11, -26, -26, -26, -26, 26, 26, 26, 26, -11, -11, -11, -11},
            {14, 6, -6, -14, -34, -14, 14, 34, 34, 14, -14, -34, -14, -6, 6, 14},
            {11, -11, -11, 11, -26, 26, 26, -26, 26, -26, -26, 26, -11, 11, 11, -11},
            {6, -14, 14, -6, -14, 34, -34, 14, 14, -34, 34, -14, -6, 14, -14, 6},
        };
        for (int place = 0; place < 16; place++) {
            dueUnit("TYPE 0, place " + place, of("TYPE 0", 20, 0, only(place, 10)), tens[place]);
        }
    }

    /** "For rows if TYPE & 1, for columns if TYPE & 2, is not 0" */
    private static void types() {
        for (int type = 0; type < 4; type++) {
            StillPicture x = of("TYPE " + type, 7, type, ANY);
            dueUnit("TYPE " + type, x, BY_TYPE[type]);
            check.due("TYPE " + type, type, x.block(3, 3, 3));
        }
    }

    /** Four blocks in a row, each of its own TYPE; each TYPE is that of the first block once. */
    private static void typeOfEachBlock() {
        for (int first = 0; first < 4; first++) {
            TileWriter tile = new TileWriter(false).symbol(0, 1);
            for (int b = 0; b < 4; b++) {
                if (b % 2 == 0) {
                    tile.symbol(1, 1);
                }
                tile.symbol(b == 0 ? 2 : 4, 1).symbol(10, (first + b) % 4).numbers(0, ANY);
            }
            FileMaker made = new FileMaker();
            made.width = 16;
            made.height = 4;
            made.q = 7;
            made.tile = tile.bytes();
            StillPicture x = FileMaker.load(made.build());
            check.due("types", StillPicture.FINE, x.decode());
            for (int b = 0; b < 4; b++) {
                int type = (first + b) % 4;
                String what = "block " + b + " of TYPE " + type;
                check.due(what, type, x.block(4 * b, 3, 3));
                // By mode 1, in the first row, all are predicted as the sample to the left of the first.
                int base = b == 0 ? 128 : x.sample(0, 4 * b - 1, 0);
                for (int i = 0; i < 16; i++) {
                    check.due(what + ": sample " + i, base + BY_TYPE[type][i], x.sample(0, 4 * b + i % 4, i / 4));
                }
            }
        }
    }

    /** "all are LIMITED to -32767 .. 32767; then each row becomes y0 .. y3, limited", seen where little is left of them. */
    private static void limits() {
        dueLimited("numbers, above", 5600, 2, -4528, 0, 33);
        dueLimited("numbers, below", -5600, 2, 4505, 0, -38);
        dueLimited("rows, above", 5400, 8, -3023, 1, 125);
        dueLimited("rows, below", -5400, 8, 3032, 1, -121);
        // The greatest numbers that can be told, for the last place and for another.
        int[] great = only(0, -8193);
        great[5] = 8194;
        StillPicture x = fine("great numbers", 63, 1, block(63, 3).numbers(0, great));
        check.due("great numbers: below", 0, x.sample(0, 0, 0));
        check.due("great numbers: above", 1023, x.sample(0, 1, 1));
        check.due("great numbers: beside", 512, x.sample(0, 2, 2));
    }

    private static void dueLimited(String what, int first, int place, int other, int type, int want) {
        int[] numbers = only(0, first);
        numbers[place] = other;
        check.due("limit, " + what, 128 + want, of("limit", 1, type, numbers).sample(0, 0, 0));
    }

    private static void closeCalls(String what, int[][] calls) {
        for (int i = 0; i < calls.length; i++) {
            int[] call = calls[i];
            int[] numbers = new int[16];
            for (int k = 3; k < call.length; k += 2) {
                numbers[call[k]] = call[k + 1];
            }
            StillPicture x = fine(what, 1, 1, block(1, call[0]).numbers(0, numbers));
            check.due(what + " " + i, 512 + call[2], x.sample(0, call[1] % 4, call[1] / 4));
        }
    }
}
