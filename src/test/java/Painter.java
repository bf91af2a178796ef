/**
 * Writes pictures sample by sample: all blocks have size 4, mode and colour mode 1, and differences
 * of TYPE 3 with Q 1, which are numbers that are only scaled, each for itself.
 */
final class Painter {
    private final FileMaker made;
    private final int[][][] planes;
    private final TileWriter tile = new TileWriter(false);

    private Painter(FileMaker made, int[][][] planes) {
        this.made = made;
        this.planes = planes;
    }

    /** Planes of rows, those behind the picture's edge included: both counts are multiples of 4. */
    static StillPicture paint(FileMaker made, int[][]... planes) {
        Painter painter = new Painter(made, planes);
        made.q = 1;
        painter.tree(16, 0, 0);
        made.tile = painter.tile.bytes();
        return FileMaker.load(made.build());
    }

    private void tree(int z, int x, int y) {
        if (x >= made.width || y >= made.height) {
            return;
        }
        if (z == 4) {
            block(x, y);
            return;
        }
        tile.symbol(z == 16 ? 0 : 1, 1);
        int half = z / 2;
        tree(half, x, y);
        tree(half, x + half, y);
        tree(half, x, y + half);
        tree(half, x + half, y + half);
    }

    private void block(int x, int y) {
        tile.symbol(2 + (y > 0 ? 1 : 0) + (x > 0 ? 2 : 0), 1);
        if (planes.length == 3) {
            tile.symbol(6, 1);
        }
        tile.symbol(10, 3);
        for (int p = 0; p < planes.length; p++) {
            int[] numbers = new int[16];
            for (int i = 0; i < 16; i++) {
                int want = planes[p][y + i / 4][x + i % 4];
                numbers[i] = numberFor(want - above(planes[p], x, y, i % 4), i == 0);
            }
            tile.numbers(p, numbers);
        }
    }

    private int above(int[][] rows, int x, int y, int i) {
        if (y > 0) {
            return rows[y - 1][x + i];
        }
        return x > 0 ? rows[0][x - 1] : made.ten == 1 ? 512 : 128;
    }

    /** The number that comes to a difference, once it is scaled. */
    static int numberFor(int difference, boolean isFirst) {
        for (int v = 0; v < 4000; v++) {
            if (scaled(v, isFirst) == difference) {
                return v;
            }
            if (scaled(-v, isFirst) == difference) {
                return -v;
            }
        }
        throw new IllegalStateException("no number comes to " + difference);
    }

    private static int scaled(int v, boolean isFirst) {
        int row = (5793 * v * (isFirst ? 6 : 7) + 2048) >> 12;
        int column = (5793 * row + 2048) >> 12;
        return (column + 8) >> 4;
    }
}
