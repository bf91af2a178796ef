/** SYMBOLS, TABLES, TREES and BLOCKS, at their edges, with promises 14 to 17, which tell of them. */
public final class SymbolsTest {
    private static final Check check = new Check();
    private static final int[] SIZES = {2, 2, 6, 6, 6, 6, 7, 7, 2, 2, 4, 16, 16, 4, 4, 4, 4, 4, 4};

    public static void main(String[] args) {
        tablesAtFirst();
        valueAgainstTheFirstBound();
        valueAgainstTheBoundsOfATable();
        emptyTile();
        bitsBehindTheEnd();
        bytesBehindTheEnd();
        tileToTheEndOfAllData();
        rangeIsDoubledWhileBelow();
        rangeOfOneBelow();
        rangeOfOne();
        symbolsThatCannotCome();
        tablesGrowAndFall();
        lastNumberStays();
        rateBehindFifteenSymbols();
        stillTablesStay();
        bitsAreSymbols();
        tablesOfPlanes();
        treesOfBlocksOfFour();
        treesOfBlocksOfEight();
        oneBlockForAll();
        orderOfTrees();
        tableOfAMode();
        tableOfAModeByTheNextBlock();
        whatABlockReads();
        unitsOfABlock();
        check.end();
    }

    private static FileMaker maker(int width, int height) {
        FileMaker made = new FileMaker();
        made.width = width;
        made.height = height;
        return made;
    }

    private static StillPicture fine(String what, FileMaker made) {
        StillPicture x = FileMaker.load(made.build());
        check.due(what, StillPicture.FINE, x.decode());
        return x;
    }

    private static StillPicture fine(String what, FileMaker made, TileWriter tile) {
        made.tile = tile.bytes();
        StillPicture x = fine(what, made);
        dueWritten(what, x, tile);
        return x;
    }

    private static void dueWritten(String what, StillPicture x, TileWriter tile) {
        check.due(what + ": symbols", tile.symbols(), x.symbols());
        check.due(what + ": taken", tile.taken(), x.taken());
    }

    private static int[] ones(int count) {
        int[] all = new int[count];
        java.util.Arrays.fill(all, 255);
        return all;
    }

    private static void dueTable(String what, StillPicture x, int t, int... want) {
        check.due(what + ": numbers", SIZES[t], want.length);
        for (int i = 0; i < want.length; i++) {
            check.due(what + ": c" + i + " of " + t, want[i], x.table(t, i));
        }
    }

    /** "at first ci = 32768 * (i + 1) / n rounded down" */
    private static void tablesAtFirst() {
        FileMaker made = maker(4, 4);
        made.still = 1;
        StillPicture x = fine("at first", made);
        for (int t = 0; t < 19; t++) {
            for (int i = 0; i < SIZES[t]; i++) {
                check.due("at first: c" + i + " of " + t, 32768 * (i + 1) / SIZES[t], x.table(t, i));
            }
        }
        dueTable("at first", x, 0, 16384, 32768);
        dueTable("at first", x, 5, 5461, 10922, 16384, 21845, 27306, 32768);
        dueTable("at first", x, 7, 4681, 9362, 14043, 18724, 23405, 28086, 32768);
        dueTable("at first", x, 10, 8192, 16384, 24576, 32768);
    }

    /** A picture of one unit whose tile is 15 bits and nothing more. */
    private static StillPicture withValue(int value) {
        FileMaker made = maker(4, 4);
        made.tile = new int[] {value >> 7, (value << 1) & 255};
        return fine("value " + value, made);
    }

    /** "VALUE the first 15 bits of the tile"; "the symbol k is the least with VALUE < sk" */
    private static void valueAgainstTheFirstBound() {
        check.due("VALUE 0", 16, withValue(0).block(0, 0, 0));
        check.due("VALUE 16383", 16, withValue(16383).block(0, 0, 0));
        check.due("VALUE 16384", 8, withValue(16384).block(0, 0, 0));
        check.due("VALUE 24575", 8, withValue(24575).block(0, 0, 0));
        check.due("VALUE 24576", 4, withValue(24576).block(0, 0, 0));
        check.due("VALUE 32767", 4, withValue(32767).block(0, 0, 0));
        // The 16th bit is none of VALUE's first.
        FileMaker made = maker(4, 4);
        made.tile = new int[] {0x7f, 0xff};
        check.due("VALUE 16383 and a bit", 16, fine("16 bits", made).block(0, 0, 0));
    }

    private static void valueAgainstTheBoundsOfATable() {
        // Behind PARTITION 0 RANGE is 16384, so that the bounds are the table's, halved and rounded down.
        int[] bounds = {2730, 5461, 8192, 10922, 13653, 16384};
        for (int mode = 0; mode < 6; mode++) {
            check.due("last VALUE of mode " + mode, mode, withValue(bounds[mode] - 1).block(0, 0, 1));
            if (mode < 5) {
                check.due("first VALUE of mode " + (mode + 1), mode + 1, withValue(bounds[mode]).block(0, 0, 1));
            }
        }
        check.due("first VALUE of mode 0", 0, withValue(0).block(0, 0, 1));
    }

    /** VALUE stays 0, so that each symbol is 0: a difference of 1, which comes to nothing. */
    private static void emptyTile() {
        StillPicture x = fine("empty tile", maker(4, 4));
        check.due("empty tile: blocks", 1, x.blocks());
        check.due("empty tile: size", 16, x.block(3, 3, 0));
        check.due("empty tile: mode", 0, x.block(0, 0, 1));
        check.due("empty tile: symbols", 6, x.symbols());
        check.due("empty tile: taken", 15 + 3 + 1 + 4 + 2 + 1, x.taken());
        for (int i = 0; i < 16; i++) {
            check.due("empty tile: sample", 128, x.sample(0, i % 4, i / 4));
        }
        dueTable("empty tile", x, 0, 17408, 32768);
        dueTable("empty tile", x, 1, 16384, 32768);
        dueTable("empty tile", x, 2, 6314, 11604, 16896, 22186, 27476, 32768);
        dueTable("empty tile", x, 8, 17408, 32768);
        check.due("empty tile: LAST", 3008, x.table(11, 0));
        dueTable("empty tile", x, 13, 9728, 17408, 25088, 32768);
        dueTable("empty tile", x, 14, 8192, 16384, 24576, 32768);
    }

    /** "behind its end all bits are 0" */
    private static void bitsBehindTheEnd() {
        int[] bytes = {0xb7, 0x4d, 0xe1, 0x96, 0x5a, 0xc3, 0x7e, 0x18, 0xa9, 0x64};
        for (int length = 0; length <= bytes.length; length++) {
            FileMaker made = maker(16, 16);
            made.tile = java.util.Arrays.copyOf(bytes, length);
            StillPicture cut = fine("tile of " + length, made);
            made.tile = java.util.Arrays.copyOf(made.tile, 100);
            StillPicture filled = fine("tile of " + length + ", filled", made);
            Answers.same(check, "tile of " + length, Answers.of(filled), Answers.of(cut));
            check.due("tile of " + length + ": more is taken than there is", true, cut.taken() > 8 * length);
        }
    }

    /** The same where there are bytes behind the tile: of the data, of the file, or of an older file. */
    private static void bytesBehindTheEnd() {
        int[] bytes = {0xb7, 0x4d, 0xe1, 0x96, 0x5a, 0xc3};
        for (int length = 0; length <= bytes.length; length++) {
            FileMaker made = maker(16, 16);
            made.tile = java.util.Arrays.copyOf(bytes, length);
            StillPicture alone = fine("alone, " + length, made);
            int[] file = made.build();
            check.due("more is taken than there is, " + length, true, alone.taken() > 8 * length + 16);
            StillPicture followed = FileMaker.load(FileMaker.join(file, ones(240 - file.length)));
            check.due("bytes of the file behind it, " + length, StillPicture.FINE, followed.decode());
            Answers.same(check, "bytes of the file behind it, " + length, Answers.of(alone), Answers.of(followed));
            made.data = FileMaker.join(made.sequence(), made.frame(), ones(100));
            StillPicture inside = fine("bytes of the data behind it, " + length, made);
            Answers.same(check, "bytes of the data behind it, " + length, Answers.of(alone), Answers.of(inside));
            inside.clear();
            for (int b : file) {
                inside.add(b);
            }
            check.due("bytes of an older file behind it, " + length, StillPicture.FINE, inside.decode());
            Answers.same(check, "bytes of an older file behind it, " + length, Answers.of(alone), Answers.of(inside));
        }
    }

    /** Data of 200 bytes, the most there can be, with a tile that is read to their end. */
    private static void tileToTheEndOfAllData() {
        int ending = 0;
        for (int more = 0; more < 60; more++) {
            // Units that are full of numbers, and two by which the tile is somewhat longer or shorter.
            TileWriter tile = new TileWriter(true).symbol(0, 0).symbol(2, 0).symbol(6, 0);
            for (int unit = 0; unit < 48; unit++) {
                int[] numbers = new int[16];
                java.util.Arrays.fill(numbers, unit < 28 ? 1 : 0);
                numbers[0] = unit == 28 ? 1 << more % 12 : numbers[0];
                numbers[more / 12] = unit == 29 ? 1 : numbers[more / 12];
                tile.numbers(unit / 16, numbers);
            }
            int[] bytes = tile.bytes();
            StillPicture x = fine("all data, " + more, fullData(java.util.Arrays.copyOf(bytes, 193)));
            if (bytes.length == 193) {
                ending++;
                dueWritten("all data, " + more, x, tile);
            }
        }
        check.due("some tiles end with the data", true, ending > 4);
        StillPicture x = fine("all data, ones", fullData(ones(193)));
        check.due("all data, ones: blocks", 16, x.blocks());
    }

    private static FileMaker fullData(int[] tile) {
        FileMaker made = maker(16, 16);
        made.brand = new int[] {3, 'f', 'v'};
        made.still = 1;
        made.layout = 1;
        made.data = FileMaker.join(made.sequence(), FileMaker.lastUnit(6, made.frameBits(), tile));
        check.due("all data: length", 200, made.data.length);
        return made;
    }

    /** "while RANGE is below 16384 it is doubled": not where it is 16384. */
    private static void rangeIsDoubledWhileBelow() {
        FileMaker made = maker(4, 4);
        made.still = 1;
        // PARTITION leaves 16384, a mode 2730 or 2731 (three bits), ZERO a half of that (one bit).
        for (int mode = 0; mode < 6; mode++) {
            TileWriter tile = new TileWriter(true).symbol(0, 0).symbol(2, mode).none(0);
            check.due("taken, mode " + mode, 15 + 3 + 1, fine("taken", made, tile).taken());
        }
        // PARTITION of 8 leaves 8192, which is doubled once.
        TileWriter eight = new TileWriter(true).symbol(0, 1).symbol(1, 0).symbol(2, 0).none(0);
        check.due("taken, block of 8", 15 + 1 + 3 + 1, fine("taken", made, eight).taken());
        TileWriter four = new TileWriter(true).symbol(0, 1).symbol(1, 1).symbol(2, 0).none(0);
        check.due("taken, block of 4", 15 + 1 + 3 + 1, fine("taken", made, four).taken());
        // LAST: 21840 / 2, doubled to 21840, by 16 is 1365 (four bits); SIZE by 4 (two bits); a sign (one bit).
        TileWriter numbers = new TileWriter(true).symbol(0, 0).symbol(2, 0).symbol(8, 0).symbol(11, 0).symbol(13, 0).bit(1);
        check.due("taken, a number", 15 + 3 + 1 + 4 + 2 + 1, fine("taken", made, numbers).taken());
    }

    /** Here RANGE is 16383 once, and is doubled; the counts are those of the model. */
    private static void rangeOfOneBelow() {
        FileMaker made = maker(4, 8);
        made.tile = new int[] {203, 177, 186, 87, 68};
        StillPicture x = fine("one below", made);
        check.due("one below: symbols", 30, x.symbols());
        check.due("one below: taken", 64, x.taken());
    }

    /**
     * Symbols 2 of SIZE for the places 6 to 15 of planes 1, 2, but for one that is another; ten to a unit.
     * By 200 of them c0 and c1 fall until they are equal.
     */
    private static TileWriter manySizes(int units, int at, int other) {
        TileWriter tile = new TileWriter(false).symbol(0, 0).symbol(2, 0).symbol(6, 0);
        for (int unit = 0; unit < 16; unit++) {
            tile.none(0);
        }
        int count = 0;
        for (int unit = 0; unit < 32; unit++) {
            if (unit >= units) {
                tile.none(1);
                continue;
            }
            tile.symbol(9, 0).symbol(12, 15);
            for (int k = 15; k >= 6; k--) {
                int symbol = count == at && tile.hasRoom(18, other) ? other : 2;
                tile.symbol(18, symbol);
                if (symbol != 0 || k == 15) {
                    tile.bit(k & 1);
                }
                count++;
            }
            for (int k = 5; k >= 0; k--) {
                tile.symbol(k == 0 ? 16 : 17, 0);
            }
        }
        return tile;
    }

    private static StillPicture sizesRead(String what, TileWriter tile) {
        FileMaker made = maker(16, 16);
        made.layout = 1;
        StillPicture x = fine(what, made, tile);
        for (int t = 0; t < 19; t++) {
            for (int i = 0; i < SIZES[t]; i++) {
                check.due(what + ": c" + i + " of " + t, tile.table(t, i), x.table(t, i));
            }
        }
        return x;
    }

    /** The least that RANGE can be: it is doubled 14 times. */
    private static void rangeOfOne() {
        long narrowest = 32768;
        for (int at = 180; at < 200; at++) {
            TileWriter tile = manySizes(22, at, 1);
            sizesRead("a symbol 1 at " + at, tile);
            narrowest = Math.min(narrowest, tile.narrowest());
        }
        check.due("narrowest", 1, narrowest);
    }

    /** "the symbol k is the least with VALUE < sk": where c0 and c1 are the same, 1 cannot be it. */
    private static void symbolsThatCannotCome() {
        for (int units = 20; units <= 32; units++) {
            StillPicture x = sizesRead("no room for 1, " + units, manySizes(units, -1, 2));
            dueTable("no room for 1, " + units, x, 18, 31, 31, 32737, 32768);
        }
        StillPicture x = sizesRead("no room for 1, then 0", manySizes(22, 205, 0));
        check.due("no room for 1, then 0: c0 grows", true, x.table(18, 0) > 31);
    }

    /** "ci grows by (32768 - ci) >> e if i >= k, and falls by ci >> e otherwise"; "one more if n is more than 4" */
    private static void tablesGrowAndFall() {
        int[][] modes = {
            {6314, 11604, 16896, 22186, 27476, 32768}, {5291, 11604, 16896, 22186, 27476, 32768},
            {5291, 10581, 16896, 22186, 27476, 32768}, {5291, 10581, 15872, 22186, 27476, 32768},
            {5291, 10581, 15872, 21163, 27476, 32768}, {5291, 10581, 15872, 21163, 26453, 32768},
        };
        int[][] types = {{9728, 17408, 25088, 32768}, {7680, 17408, 25088, 32768}, {7680, 15360, 25088, 32768}, {7680, 15360, 23040, 32768}};
        for (int mode = 0; mode < 6; mode++) {
            for (int type = 0; type < 4; type++) {
                FileMaker made = maker(4, 4);
                made.q = 1;
                TileWriter tile = new TileWriter(false).symbol(0, 0).symbol(2, mode).symbol(10, type).none(0);
                StillPicture x = fine("grow and fall", made, tile);
                dueTable("mode " + mode, x, 2, modes[mode]);
                dueTable("type " + type, x, 10, types[type]);
                dueTable("PARTITION 0", x, 0, 17408, 32768);
                dueTable("ZERO 1", x, 8, 15360, 32768);
                dueTable("not read", x, 3, 5461, 10922, 16384, 21845, 27306, 32768);
            }
        }
        int[] grown = {5558, 10093, 14628, 19162, 23697, 28232, 32768};
        int[] fallen = {4535, 9070, 13605, 18139, 22674, 27209, 32768};
        for (int colour = 0; colour < 6; colour++) {
            FileMaker made = maker(4, 4);
            made.layout = 1;
            TileWriter tile = new TileWriter(false).symbol(0, 0).symbol(2, 0).symbol(6, colour).none(0).none(1).none(2);
            StillPicture x = fine("colour mode " + colour, made, tile);
            for (int i = 0; i < 7; i++) {
                check.due("colour mode " + colour + ": c" + i, i >= colour ? grown[i] : fallen[i], x.table(6, i));
            }
            check.due("SHARE is not read", 4681, x.table(7, 0));
        }
    }

    /** "for i from 0 to n - 2" */
    private static void lastNumberStays() {
        FileMaker made = maker(16, 16);
        made.layout = 1;
        made.q = 3;
        made.tile = ones(100);
        StillPicture x = fine("last numbers", made);
        for (int t = 0; t < 19; t++) {
            check.due("last number of table " + t, 32768, x.table(t, SIZES[t] - 1));
            check.due("no number behind it " + t, -1, x.table(t, SIZES[t]));
        }
    }

    /** "one more if more than 15 symbols were read with the table before this one" */
    private static void rateBehindFifteenSymbols() {
        int[][] sizes = {
            {23429, 26542, 29652, 32768}, {24012, 26931, 29846, 32768}, {24285, 27113, 29937, 32768}, {24550, 27289, 30025, 32768},
        };
        int[][] shares = {
            {2822, 5640, 8457, 11273, 14089, 16906, 32768}, {2735, 5466, 8195, 10924, 13653, 16382, 32768},
        };
        int[][] lasts = {{13682, 31491}, {14278, 31530}, {14566, 31549}, {14850, 31568}};
        for (int count = 15; count <= 18; count++) {
            dueTable(count + " symbols of SIZE", sizesRead(count), 14, sizes[count - 15]);
            StillPicture x = lastsRead(count);
            check.due(count + " symbols of LAST: c0", lasts[count - 15][0], x.table(12, 0));
            check.due(count + " symbols of LAST: c14", lasts[count - 15][1], x.table(12, 14));
        }
        dueTable("16 symbols of ZERO", zerosRead(16, 8, 8), 9, 5837, 32768);
        dueTable("18 symbols of ZERO", zerosRead(12, 12, 9), 9, 5479, 32768);
        dueTable("32 symbols of ZERO", zerosRead(16, 16, 16), 9, 3520, 32768);
        dueTable("16 symbols of ZERO for plane 0", zerosRead(16, 16, 16), 8, 5837, 32768);
        dueTable("16 symbols of SHARE", sharesRead(8), 7, shares[0]);
        dueTable("18 symbols of SHARE", sharesRead(9), 7, shares[1]);
    }

    /** As many symbols 0 of SIZE for the places 1 to 5, five to a unit. */
    private static StillPicture sizesRead(int count) {
        TileWriter tile = new TileWriter(false).symbol(0, 0).symbol(2, 0);
        for (int unit = 0; unit < 4; unit++) {
            int left = Math.min(5, count - 5 * unit);
            tile.symbol(8, 0).symbol(11, left);
            for (int k = left; k >= 0; k--) {
                tile.symbol(k == 0 ? 13 : 14, 0);
                if (k == left) {
                    tile.bit(0);
                }
            }
        }
        return fine("sizes", maker(16, 4), tile);
    }

    /** Pictures of so many units, with a symbol 1 of ZERO for each of them in each plane. */
    private static StillPicture zerosRead(int width, int height, int units) {
        FileMaker made = maker(width, height);
        made.layout = 1;
        TileWriter tile = new TileWriter(false).symbol(0, 0).symbol(2, 0).symbol(6, 0);
        for (int unit = 0; unit < 3 * units; unit++) {
            tile.none(unit / units);
        }
        return fine("zeros", made, tile);
    }

    /** As many symbols 0 of LAST for planes 1, 2. */
    private static StillPicture lastsRead(int count) {
        FileMaker made = maker(16, 16);
        made.layout = 1;
        TileWriter tile = new TileWriter(false).symbol(0, 0).symbol(2, 0).symbol(6, 0);
        for (int unit = 0; unit < 16; unit++) {
            tile.none(0);
        }
        int[] numbers = new int[16];
        numbers[0] = 1;
        for (int unit = 0; unit < 32; unit++) {
            if (unit < count) {
                tile.numbers(1, numbers);
            } else {
                tile.none(1);
            }
        }
        return fine("lasts", made, tile);
    }

    /** As many blocks of 4, each with two symbols 6 of SHARE. */
    private static StillPicture sharesRead(int blocks) {
        FileMaker made = maker(blocks == 8 ? 8 : 12, blocks == 8 ? 16 : 12);
        made.layout = 1;
        made.tile = ones(60);
        StillPicture x = fine("shares", made);
        check.due("shares: blocks", blocks, x.blocks());
        return x;
    }

    /** "unless STILL is 1" */
    private static void stillTablesStay() {
        FileMaker made = maker(16, 16);
        made.still = 1;
        made.layout = 1;
        made.q = 2;
        made.tile = new int[] {0xd7, 0x4d, 0xe1, 0x96, 0x5a, 0xc3, 0x7e, 0x18, 0xa9, 0x64};
        StillPicture x = fine("still", made);
        for (int t = 0; t < 19; t++) {
            for (int i = 0; i < SIZES[t]; i++) {
                check.due("still: c" + i + " of " + t, 32768 * (i + 1) / SIZES[t], x.table(t, i));
            }
        }
        check.due("still: symbols are read", true, x.symbols() > 50);
    }

    /** "A BIT is a symbol of the table 16384, 32768"; "bits that are symbols included" */
    private static void bitsAreSymbols() {
        TileWriter tile = new TileWriter(false).symbol(0, 0).symbol(2, 0).symbol(8, 0).symbol(11, 0).symbol(13, 3);
        for (int b : new int[] {0, 0, 1, 1, 0, 1}) {
            tile.bit(b);
        }
        StillPicture x = fine("bits", maker(4, 4), tile);
        check.due("bits: symbols", 5 + 6, x.symbols());
        // 4 + 3 + 2 is 9, made negative, by 4 and rounded down.
        check.due("bits: sample", 128 - 3, x.sample(0, 0, 0));
    }

    /** "Where there are two of a kind the first is for plane 0 and the second for planes 1, 2" */
    private static void tablesOfPlanes() {
        int[] numbers = new int[16];
        numbers[0] = 1;
        for (int p = 0; p < 3; p++) {
            FileMaker made = maker(4, 4);
            made.layout = 1;
            TileWriter tile = new TileWriter(false).symbol(0, 0).symbol(2, 0).symbol(6, 0);
            for (int plane = 0; plane < 3; plane++) {
                tile.numbers(plane, plane == p ? numbers : new int[16]);
            }
            StillPicture x = fine("plane " + p, made, tile);
            String what = "numbers in plane " + p;
            check.due(what + ": ZERO of plane 0", p == 0 ? 17408 : 15360, x.table(8, 0));
            // A symbol 0 and a symbol 1, or the other way round, or twice 1.
            check.due(what + ": ZERO of planes 1, 2", p == 0 ? 14400 : p == 1 ? 16320 : 16448, x.table(9, 0));
            check.due(what + ": LAST of plane 0", p == 0 ? 3008 : 2048, x.table(11, 0));
            check.due(what + ": LAST of planes 1, 2", p == 0 ? 2048 : 3008, x.table(12, 0));
            check.due(what + ": SIZE of plane 0", p == 0 ? 9728 : 8192, x.table(13, 0));
            check.due(what + ": SIZE of planes 1, 2", p == 0 ? 8192 : 9728, x.table(16, 0));
        }
    }

    private static int ceil(int a, int by) {
        return (a + by - 1) / by;
    }

    /** "nothing if x is not below the width or y not below the height. If z is 4: a BLOCK." */
    private static void treesOfBlocksOfFour() {
        for (int width = 1; width <= 16; width++) {
            for (int height = 1; height <= 16; height++) {
                FileMaker made = maker(width, height);
                // All symbols are the last ones: each tree is cut, each mode is 5, and no differences.
                made.tile = ones(40);
                String what = "blocks of 4, " + width + " times " + height;
                StillPicture x = fine(what, made);
                int eights = ceil(width, 8) * ceil(height, 8);
                int fours = ceil(width, 4) * ceil(height, 4);
                check.due(what + ": blocks", fours, x.blocks());
                check.due(what + ": symbols", 1 + eights + 2 * fours, x.symbols());
                check.due(what + ": PARTITION of 16", 15360, x.table(0, 0));
                int[] eighths = {16384, 15360, 14400, 13500, 12657};
                check.due(what + ": PARTITION of 8", eighths[eights], x.table(1, 0));
                for (int py = 0; py < height; py++) {
                    check.due(what + ": size", 4, x.block(width - 1, py, 0));
                    check.due(what + ": mode", 5, x.block(width - 1, py, 1));
                }
            }
        }
    }

    private static void treesOfBlocksOfEight() {
        for (int width = 1; width <= 16; width++) {
            for (int height = 1; height <= 16; height++) {
                TileWriter tile = new TileWriter(false).symbol(0, 1);
                int blocks = 0;
                for (int tree = 0; tree < 4; tree++) {
                    int left = 8 * (tree % 2);
                    int top = 8 * (tree / 2);
                    if (left < width && top < height) {
                        int units = Math.min(2, ceil(width - left, 4)) * Math.min(2, ceil(height - top, 4));
                        tile.symbol(1, 0).symbol(2, 0);
                        for (int unit = 0; unit < units; unit++) {
                            tile.none(0);
                        }
                        blocks++;
                    }
                }
                String what = "blocks of 8, " + width + " times " + height;
                StillPicture x = fine(what, maker(width, height), tile);
                check.due(what + ": blocks", blocks, x.blocks());
                check.due(what + ": size", 8, x.block(width - 1, height - 1, 0));
            }
        }
    }

    /** All symbols are 0: one block, whose units have four symbols each. */
    private static void oneBlockForAll() {
        for (int width = 1; width <= 16; width++) {
            for (int height = 1; height <= 16; height++) {
                String what = "one block, " + width + " times " + height;
                StillPicture x = fine(what, maker(width, height));
                check.due(what + ": blocks", 1, x.blocks());
                check.due(what + ": size", 16, x.block(width - 1, height - 1, 0));
                check.due(what + ": symbols", 2 + 4 * ceil(width, 4) * ceil(height, 4), x.symbols());
            }
        }
    }

    /** "the TREES of z / 2 at x, y, then to the right of that, below it, and below and to the right" */
    private static void orderOfTrees() {
        TileWriter tile = new TileWriter(false).symbol(0, 1);
        tile.symbol(1, 0).symbol(2, 1).none(0).none(0).none(0).none(0);
        tile.symbol(1, 1).symbol(4, 2).none(0).symbol(4, 3).none(0).symbol(5, 4).none(0).symbol(5, 5).none(0);
        tile.symbol(1, 0).symbol(3, 0).none(0).none(0);
        tile.symbol(1, 0).symbol(3, 2).none(0).none(0);
        StillPicture x = fine("trees", maker(16, 9), tile);
        check.due("trees: blocks", 7, x.blocks());
        int[] sizes = {8, 8, 4, 4, 8, 8, 4, 4, 8, 8, 8, 8};
        int[] modes = {1, 1, 2, 3, 1, 1, 4, 5, 0, 0, 2, 2};
        for (int i = 0; i < 12; i++) {
            int left = 4 * (i % 4);
            int top = 4 * (i / 4);
            check.due("trees: size " + i, sizes[i], x.block(left, top, 0));
            check.due("trees: mode " + i, modes[i], x.block(left + 3, top, 1));
            check.due("trees: last row " + i, i < 8 ? modes[i] : -1, x.block(left, top + 3, 1));
        }
    }

    /** "u is 1 if there is a block with the place x, y - 1 and its mode is not 0, else 0; v likewise for x - 1, y" */
    private static void tableOfAMode() {
        for (int above = 0; above < 6; above++) {
            for (int left = 0; left < 6; left++) {
                TileWriter tile = new TileWriter(false).symbol(0, 1).symbol(1, 1);
                tile.symbol(2, 0).none(0);
                tile.symbol(2, above).none(0);
                tile.symbol(2, left).none(0);
                int table = 2 + (above != 0 ? 1 : 0) + (left != 0 ? 2 : 0);
                tile.symbol(table, 3).none(0);
                String what = "mode " + above + " above, " + left + " to the left";
                StillPicture x = fine(what, maker(8, 8), tile);
                check.due(what, 3, x.block(5, 5, 1));
                check.due(what + ": above", above, x.block(5, 3, 1));
                check.due(what + ": to the left", left, x.block(3, 5, 1));
            }
        }
        // The first block has mode 3, and the others nothing but it beside them.
        TileWriter right = new TileWriter(false).symbol(0, 1).symbol(1, 1).symbol(2, 3).none(0).symbol(4, 2).none(0);
        check.due("to the right of mode 3", 2, fine("right", maker(8, 4), right).block(4, 0, 1));
        TileWriter below = new TileWriter(false).symbol(0, 1).symbol(1, 1).symbol(2, 3).none(0).symbol(3, 2).none(0);
        check.due("below mode 3", 2, fine("below", maker(4, 8), below).block(0, 4, 1));
        // The place x - 1, y is beside the first row of the block: there the upper of two blocks.
        TileWriter upper = new TileWriter(false).symbol(0, 1);
        upper.symbol(1, 1).symbol(2, 0).none(0).symbol(2, 0).none(0).symbol(2, 0).none(0).symbol(2, 4).none(0);
        upper.symbol(1, 0).symbol(2, 1).none(0).none(0).none(0).none(0);
        check.due("beside the upper of two", 1, fine("upper", maker(16, 8), upper).block(8, 0, 1));
    }

    /** Four blocks in a row or in a column, with mode 0 or not: only the one right before each counts. */
    private static void tableOfAModeByTheNextBlock() {
        for (int kinds = 0; kinds < 16; kinds++) {
            for (int turn = 0; turn < 2; turn++) {
                TileWriter tile = new TileWriter(false).symbol(0, 1);
                int before = 0;
                for (int b = 0; b < 4; b++) {
                    if (b % 2 == 0) {
                        tile.symbol(1, 1);
                    }
                    int mode = (kinds >> b & 1) == 1 ? b + 1 : 0;
                    tile.symbol(before == 0 ? 2 : turn == 1 ? 3 : 4, mode).none(0);
                    before = mode;
                }
                String what = "modes " + kinds + ", turn " + turn;
                StillPicture x = fine(what, turn == 1 ? maker(4, 16) : maker(16, 4), tile);
                for (int b = 0; b < 4; b++) {
                    int want = (kinds >> b & 1) == 1 ? b + 1 : 0;
                    check.due(what + ": block " + b, want, turn == 1 ? x.block(2, 4 * b, 1) : x.block(4 * b, 2, 1));
                }
                for (int t = 2; t <= 5; t++) {
                    check.due(what + ": table " + t, tile.table(t, 0), x.table(t, 0));
                }
            }
        }
    }

    /** "With three planes a symbol of COLOUR"; "if that is 6, two symbols of SHARE"; "If Q is not 0, a symbol of TYPE" */
    private static void whatABlockReads() {
        for (int planes = 1; planes <= 3; planes += 2) {
            for (int q = 0; q < 2; q++) {
                FileMaker made = maker(4, 4);
                made.layout = planes == 3 ? 1 : 0;
                made.q = q;
                StillPicture zeros = fine("zeros", made);
                String what = planes + " planes, Q " + q;
                check.due(what + ": symbols", 2 + (planes == 3 ? 1 : 0) + q + 4 * planes, zeros.symbols());
                made.tile = ones(20);
                StillPicture ones = fine("ones", made);
                check.due(what + ", ones: symbols", 3 + (planes == 3 ? 3 : 0) + q + planes, ones.symbols());
                check.due(what + ", ones: mode", 5, ones.block(0, 0, 1));
                check.due(what + ", ones: colour mode", planes == 3 ? 6 : 0, ones.block(0, 0, 2));
                check.due(what + ", ones: type", q == 1 ? 3 : 0, ones.block(0, 0, 3));
                check.due(what + ", zeros: colour mode", 0, zeros.block(0, 0, 2));
            }
        }
    }

    /** "for each plane in turn, for each UNIT .., row by row, whose first place (left, above) is in the picture" */
    private static void unitsOfABlock() {
        FileMaker made = maker(5, 9);
        made.layout = 1;
        TileWriter tile = new TileWriter(false).symbol(0, 0).symbol(2, 0).symbol(6, 0);
        int[] numbers = new int[16];
        for (int p = 0; p < 3; p++) {
            for (int unit = 0; unit < 6; unit++) {
                // The last unit of the first row, and the first one of the second, by other numbers.
                numbers[0] = unit == 1 ? 32 : unit == 2 ? -32 : 0;
                tile.numbers(p, numbers);
            }
        }
        StillPicture x = fine("units", made, tile);
        for (int p = 0; p < 3; p++) {
            check.due("units: first of plane " + p, 128, x.sample(p, 3, 3));
            check.due("units: second of plane " + p, 136, x.sample(p, 4, 0));
            check.due("units: third of plane " + p, 120, x.sample(p, 0, 4));
            check.due("units: fourth of plane " + p, (4 * 136 + 4 * 120 + 4) >> 3, x.sample(p, 4, 4));
        }
        check.due("units: blocks", 1, x.blocks());
    }
}
