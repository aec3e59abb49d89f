/** Calls that tell nearly all that an object holds: those that ask, then those that change, one behind the other. */
final class Probe {
    private Probe() {
    }

    static void of(Atlas a) {
        ask(a);
        a.act(0, 2, 7);
        a.trace(0);
        text(a);
        tapes(a);
        rows(a);
        a.undo();
        ask(a);
        rows(a);
        newOnes(a);
    }

    private static void ask(Atlas a) {
        for (int what = 0; what <= 7; what++) {
            a.count(what);
        }
        for (int p = 0; p < a.count(0); p++) {
            for (int what = 0; what <= 4; what++) {
                a.of(p, what);
            }
        }
        for (int leaf = 0; leaf < a.count(1); leaf++) {
            for (int what = 0; what <= 6; what += what == 2 ? 3 : 1) {
                a.sheet(leaf, what);
            }
        }
        for (int what = 0; what <= 2; what++) {
            a.told(what);
        }
        a.ends(0);
        a.ends(1);
        a.looked();
        a.trace(0);
        a.trace(3);
        a.on(5, 1);
    }

    /** What THE TEXT holds is told by what library() makes of it. */
    private static void text(Atlas a) {
        a.library();
        a.count(6);
        a.told(1);
        a.of(0, 4);
    }

    private static void tapes(Atlas a) {
        for (int tape = 0; tape < 6; tape++) {
            for (int i = 0; i < 5; i++) {
                a.read(tape, i);
            }
            // How much of this an item keeps tells its sort.
            a.item(tape, 0, 0x0182_8384_8586_8788L);
            a.read(tape, 0);
        }
    }

    private static void rows(Atlas a) {
        for (int p = 0; p < 2; p++) {
            for (int part = 0; part < 4; part++) {
                a.row(p, part, 1);
            }
        }
    }

    /** Another person has an empty ROW, another LEAF no HOLDERS. */
    private static void newOnes(Atlas a) {
        int p = a.one(6, 1, 77);
        for (int part = 0; part < 4; part++) {
            a.row(p, part, 5);
        }
        int leaf = a.leaf(3);
        a.sheet(leaf, 1);
        a.feed('u');
        a.see(0, 1, true);
        a.plan(0, 0);
        a.book(0, 3);
        a.pass(1);
        a.of(0, 2);
    }
}
