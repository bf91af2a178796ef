/**
 * What an object answers to a few of all questions, so that two states of it can be held together.
 * Few, because an object promises nothing behind its 512th call.
 */
final class Answers {
    /** How many calls it takes to ask for the answers. */
    static final int CALLS = 33;

    private Answers() {
    }

    static int[] of(StillPicture x) {
        return new int[] {
            x.planes(), x.width(), x.height(), x.depth(), x.blocks(), x.symbols(), x.taken(),
            x.sample(0, 0, 0), x.sample(0, 1, 0), x.sample(0, 0, 1), x.sample(0, 3, 3), x.sample(0, 7, 7),
            x.sample(1, 0, 0), x.sample(1, 3, 2), x.sample(2, 0, 0), x.sample(2, 2, 3), x.sample(0, 15, 15),
            x.block(0, 0, 0), x.block(0, 0, 1), x.block(0, 0, 2), x.block(0, 0, 3), x.block(7, 7, 0), x.block(7, 7, 1),
            x.block(15, 15, 0), x.table(0, 0), x.table(1, 0), x.table(2, 3), x.table(6, 2), x.table(8, 0),
            x.table(10, 1), x.table(11, 4), x.table(13, 2), x.table(18, 3),
        };
    }

    /** What is due where there is no picture. */
    static int[] none() {
        int[] none = new int[CALLS];
        for (int i = 7; i < CALLS; i++) {
            none[i] = -1;
        }
        return none;
    }

    static void same(Check check, String what, int[] want, int[] got) {
        check.due(what + ": answers", want.length, got.length);
        for (int i = 0; i < want.length; i++) {
            check.due(what + ": answer " + i, want[i], got[i]);
        }
    }
}
