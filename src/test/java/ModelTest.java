/** Holds the program against the model, over files with all kinds of pictures and of faults. */
public final class ModelTest {
    private static final Check check = new Check();
    private static final int[] codes = new int[9];

    public static void main(String[] args) {
        int pictures = args.length > 0 ? Integer.parseInt(args[0]) : 6000;
        StillPicture used = new StillPicture();
        for (int seed = 1; seed <= pictures; seed++) {
            Dice dice = new Dice(seed);
            int[] file = anyFile(dice);
            compare("seed " + seed, file, FileMaker.load(file));
            int faults = 1 + dice.below(2);
            for (int i = 0; i < faults; i++) {
                int near = dice.oneIn(2) ? Math.min(60, file.length) : file.length;
                file[dice.below(near)] = dice.oneIn(3) ? dice.below(256) : dice.below(12);
            }
            // The same object again and again, so that nothing of an older picture may shine through.
            used.clear();
            for (int b : file) {
                used.add(b);
            }
            compare("seed " + seed + " with a fault", file, used);
        }
        for (int code = 0; code < codes.length; code++) {
            check.due("files with code " + code, true, codes[code] > 0);
        }
        check.end();
    }

    static int[] anyFile(Dice dice) {
        FileMaker made = new FileMaker();
        made.layout = dice.below(2);
        made.ten = dice.below(2);
        made.width = 1 + dice.below(16);
        made.height = 1 + dice.below(16);
        made.soft = dice.below(2);
        made.q = dice.oneIn(4) ? 0 : dice.oneIn(2) ? 1 + dice.below(6) : dice.below(64);
        made.still = dice.oneIn(4) ? 1 : 0;
        made.level = dice.oneIn(3) ? 0 : dice.below(8);
        made.strength = dice.below(4);
        made.item = dice.below(256);
        made.withExtra = dice.oneIn(2);
        made.pieces = dice.oneIn(3) ? new int[] {dice.below(8)} : new int[] {};
        made.more = dice.oneIn(8) ? FileMaker.box('r', FileMaker.box('m', FileMaker.box('z'))) : new int[] {};
        made.tile = new int[dice.below(dice.oneIn(2) ? 150 : 40)];
        // Few kinds of bytes give long runs, which lead to symbols at the ends of their tables.
        int kind = dice.below(4);
        for (int i = 0; i < made.tile.length; i++) {
            int any = dice.below(256);
            made.tile[i] = kind == 0 ? any & dice.below(256) : kind == 1 ? any | dice.below(256) : any;
        }
        if (dice.oneIn(10)) {
            made.data = FileMaker.join(FileMaker.unit(dice.below(16), FileMaker.list(dice.below(256))),
                made.sequence(), made.sequence(), FileMaker.lastUnit(6, made.frameBits(), made.tile));
        }
        return made.build();
    }

    private static void compare(String run, int[] file, StillPicture x) {
        Model m = new Model(file);
        codes[m.code]++;
        check.due(run + ": decode", m.code, x.decode());
        boolean there = m.code == 0;
        check.due(run + ": planes", there ? m.planes() : 0, x.planes());
        check.due(run + ": width", there ? m.width : 0, x.width());
        check.due(run + ": height", there ? m.height : 0, x.height());
        check.due(run + ": depth", there ? m.depth() : 0, x.depth());
        check.due(run + ": blocks", there ? m.blocks : 0, x.blocks());
        check.due(run + ": symbols", there ? m.symbols : 0, x.symbols());
        check.due(run + ": taken", there ? m.taken : 0, x.taken());
        compareSamples(run, m, x);
        compareBlocks(run, m, x);
        for (int t = -1; t <= 19; t++) {
            for (int i = -1; i <= 16; i++) {
                boolean is = there && t >= 0 && t < 19 && i >= 0 && i < Model.TABLE_SIZES[t];
                check.due(run + ": table " + t + " " + i, is ? m.tables[t][i] : -1, x.table(t, i));
            }
        }
    }

    private static void compareSamples(String run, Model m, StillPicture x) {
        for (int p = -1; p <= 3; p++) {
            for (int py = -1; py <= 16; py++) {
                for (int px = -1; px <= 16; px++) {
                    boolean is = isIn(m, px, py) && p >= 0 && p < m.planes();
                    check.due(run + ": sample " + p + " " + px + " " + py,
                        is ? m.samples[p][py][px] : -1, x.sample(p, px, py));
                }
            }
        }
    }

    private static void compareBlocks(String run, Model m, StillPicture x) {
        for (int w = -1; w <= 4; w++) {
            for (int py = -1; py <= 16; py++) {
                for (int px = -1; px <= 16; px++) {
                    boolean is = isIn(m, px, py) && w >= 0 && w <= 3;
                    check.due(run + ": block " + px + " " + py + " " + w,
                        is ? m.told(px, py, w) : -1, x.block(px, py, w));
                }
            }
        }
    }

    private static boolean isIn(Model m, int px, int py) {
        return m.code == 0 && px >= 0 && px < m.width && py >= 0 && py < m.height;
    }
}
