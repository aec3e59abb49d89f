/** Boundary cases of "Terms" 2: ACTS, THE TRACE, THE IMAGE. */
final class ImageEdges extends Edge {

    // ---- ACTS, THE TRACE, THE IMAGE

    private static void act(int due, int kind, int v, int number, int act, int x, int... bodies) {
        Atlas a = new Atlas();
        for (int p = 0; p < number; p++) {
            a.one(0, 0, 0);
        }
        a.one(kind, v, 0);
        is(due, a.act(number, act, x));
        is(bodies.length, a.count(7));
        for (int i = 0; i < bodies.length; i++) {
            is(bodies[i], a.trace(i));
        }
        is(NONE, a.trace(bodies.length));
    }

    @Of(part = "Terms 2", says = "ACTS of one with x (wrapping): 0 bows, 1 tugs, 2 tells; i its number.")
    static void actsWrap() {
        act(LEAST, 0, 0, 1, 0, MOST, 10);
        act(LEAST + 4, 0, 0, 5, 0, MOST, 10);
        act(MOST, 0, 1, 0, 1, LEAST, 11, 10);
        act(MOST - 8, 0, 9, 0, 1, LEAST, 11, 10);
        act(LEAST, 0, 0, 0, 2, 1 << 30, 12, 11, 10);
        act(0, 0, 0, 0, 2, LEAST, 12, 11, 10);
        act(MOST - 2, 2, 0, 0, 0, MOST, 30, 10);
        act(LEAST, 4, 0, 0, 0, LEAST, 50, 10);
        act(LEAST + 1, 4, 0, 0, 0, MOST, 50, 10);
        act(6 ^ LEAST, 4, 0, 0, 1, MOST, 51, 20, 11, 50, 10);
        act(-4, 5, 0, 1, 2, LEAST, 60, 12, 11, 30, 10);
    }

    @Of(part = "Terms 2", says = "BODIES: ONE: 10 bows: x + i. 11 tugs: bows(x) - v. 12 tells: tugs(x) * 2.")
    static void bodiesOfOne() {
        act(15, 0, 4, 5, 0, 10, 10);
        act(11, 0, 4, 5, 1, 10, 11, 10);
        act(22, 0, 4, 5, 2, 10, 12, 11, 10);
        act(-10, 0, 0, 0, 0, -10, 10);
        act(-19, 0, 9, 0, 1, -10, 11, 10);
    }

    @Of(part = "Terms 2", says = "READER: 20 tugs: super.tugs(x) ^ 6. CLERK: 30 bows: super.bows(x * 3). "
        + "WALKER: 40 tells: super.tells(x) + tugs(1).")
    static void bodiesOfTheKindsUnderOne() {
        act(15, 1, 4, 5, 0, 10, 10);
        act(11 ^ 6, 1, 4, 5, 1, 10, 20, 11, 10);
        act((11 ^ 6) * 2, 1, 4, 5, 2, 10, 12, 20, 11, 10);
        act(35, 2, 4, 5, 0, 10, 30, 10);
        act(31, 2, 4, 5, 1, 10, 11, 30, 10);
        act(62, 2, 4, 5, 2, 10, 12, 11, 30, 10);
        act(15, 3, 4, 5, 0, 10, 10);
        act(11, 3, 4, 5, 1, 10, 11, 10);
        act(24, 3, 4, 5, 2, 10, 40, 12, 11, 10, 11, 10);
    }

    @Of(part = "Terms 2",
        says = "DREAMER: 50 bows: -super.bows(x). 51 tugs: super.tugs(x + 1). PORTER: 60 tells: super.tells(x - i). "
        + "TOLD: 70 tugs: super.tugs(x) + super.bows(2). 71 bows: super.bows(x) ^ v.")
    static void bodiesOfTheKindsBelow() {
        act(-15, 4, 4, 5, 0, 10, 50, 10);
        act((-16 - 4) ^ 6, 4, 4, 5, 1, 10, 51, 20, 11, 50, 10);
        act(((-16 - 4) ^ 6) * 2, 4, 4, 5, 2, 10, 12, 51, 20, 11, 50, 10);
        act(35, 5, 4, 5, 0, 10, 30, 10);
        act(31, 5, 4, 5, 1, 10, 11, 30, 10);
        act(32, 5, 4, 5, 2, 10, 60, 12, 11, 30, 10);
        act(15 ^ 4, 6, 4, 5, 0, 10, 71, 10);
        act((15 ^ 4) - 4 + 7, 6, 4, 5, 1, 10, 70, 11, 71, 10, 10);
        act(28 + (6 ^ 4) + 3, 6, 4, 5, 2, 10, 40, 12, 70, 11, 71, 10, 10, 70, 11, 71, 10, 10);
    }

    @Of(part = "Terms 2", says = "the body of its KIND, or, if that has none, of the next KIND above that has one; "
        + "super.bows(..): so from the KIND above the body's on; all that stands in a body is done from the left on.")
    static void bodiesAreLookedForUpward() {
        // A PORTER has no bows: its CLERK's; a DREAMER no tells: ONE's, not the READER's, who has none either.
        act(3, 5, 0, 0, 0, 1, 30, 10);
        act((-2 ^ 6) * 2, 4, 0, 0, 2, 1, 12, 51, 20, 11, 50, 10);
        // super of a TOLD's bows is ONE's, for a WALKER has none; in tells the WALKER's left part comes first.
        act(1, 6, 0, 0, 0, 1, 71, 10);
        act(9, 6, 0, 0, 2, 1, 40, 12, 70, 11, 71, 10, 10, 70, 11, 71, 10, 10);
    }

    @Of(part = "Terms 2",
        says = "THE TRACE: the numbers of the bodies that ran in the latest act(), as they began; the first 20 "
            + "are kept.")
    static void traceIsOfTheLatest() {
        Atlas a = new Atlas();
        is(NONE, a.trace(0));
        a.one(6, 1, 1);
        a.act(0, 2, 1);
        is(12, a.count(7));
        is(10, a.trace(11));
        is(NONE, a.trace(12));
        a.act(0, 0, 1);
        is(71, a.trace(0));
        is(10, a.trace(1));
        is(NONE, a.trace(2));
        a.act(1, 0, 1);
        is(NONE, a.trace(0));
    }

    @Of(part = "Terms 2",
        says = "THE IMAGE: PEOPLE with all that is theirs, LEAVES, DROPS, STEP, SEEN, the PLAN, the BOOK, "
        + "which LIBRARY holds.")
    static void imageOfAll() {
        Atlas a = Halls.some();
        a.image();
        Atlas b = Halls.some();
        b.image();
        changeAll(a);
        a.undo();
        alike(a, b);
    }

    /** Changes all that THE IMAGE is of, and adds to it. */
    private static void changeAll(Atlas a) {
        for (int p = 0; p < 4; p++) {
            a.walk(p, 99 - p);
        }
        a.row(0, 2, 9);
        a.hold(0, 3, 2);
        a.free(1);
        a.hold(2, 0, 3);
        a.leaf(5);
        a.one(1, 9, 0);
        a.pass(3);
        a.hold(3, 0, 4);
        a.see(-1, 0, true);
        a.see(2, 5, true);
        a.see(2, 6, false);
        a.see(2, 7, false);
        a.plan(-1, 0);
        a.plan(1, 0);
        a.plan(3, 2);
        a.plan(0, 0);
        a.book(-1, 0);
        a.book(0, 7);
        a.book(3, 96);
        a.book(0, 7);
    }

    @Of(part = "Terms 2", says = "PEOPLE with all that is theirs")
    static void imageOfSixPeople() {
        Atlas a = new Atlas();
        for (int p = 0; p < 6; p++) {
            a.one(6, p + 1, p + 10);
            for (int part = 0; part < 4; part++) {
                a.row(p, part, p + part);
            }
        }
        a.image();
        for (int p = 0; p < 6; p++) {
            a.walk(p, 50);
            for (int part = 0; part < 4; part++) {
                a.row(p, part, 9);
            }
        }
        is(6, a.undo());
        for (int p = 0; p < 6; p++) {
            is(6, a.of(p, 0));
            is(p + 1, a.of(p, 1));
            is(p + 10, a.of(p, 2));
            for (int part = 0; part < 4; part++) {
                is(p + part, a.row(p, part, 0));
            }
        }
    }

    @Of(part = "Terms 2", says = "LEAVES, DROPS, STEP")
    static void imageOfFourLeaves() {
        Atlas a = Atlas.ones(0, 1, 2, 3, 4, 99);
        for (int leaf = 0; leaf < 4; leaf++) {
            a.leaf(30 + leaf);
        }
        a.hold(0, 0, 5);
        a.pass(1);
        for (int leaf = 1; leaf < 4; leaf++) {
            a.hold(leaf, leaf, leaf + 1);
        }
        a.image();
        a.hold(0, 4, 5);
        a.free(1);
        a.hold(2, 5, 0);
        a.hold(3, 0, 1);
        a.pass(2);
        is(3, a.told(2));
        is(3, a.told(0));
        is(6, a.undo());
        is(1, a.told(2));
        is(1, a.told(0));
        is(14, a.told(4));
        for (int leaf = 0; leaf < 4; leaf++) {
            is(30 + leaf, a.sheet(leaf, 0));
            is(leaf == 0 ? NOT_ANY : leaf, a.sheet(leaf, 1));
            is(leaf == 0 ? NOT_ANY : leaf + 1, a.sheet(leaf, 2));
        }
    }

    /** LEAVES of 0 and each of 1 to 4, who are 20 to 23 apart. */
    private static Atlas fourHeld() {
        Atlas a = Atlas.ones(0, 20, 21, 22, 23, 24);
        for (int leaf = 0; leaf < 4; leaf++) {
            a.leaf(30);
            a.hold(leaf, 0, 1 + leaf);
        }
        return a;
    }

    @Of(part = "Terms 2", says = "SEEN, the PLAN, the BOOK")
    static void imageOfSeen() {
        int[][] orders = {{0, 1, 2, 3, 3}, {3, 3, 2, 1, 0}};
        for (int[] order : orders) {
            Atlas a = fourHeld();
            for (int leaf : order) {
                a.see(leaf, 0, false);
            }
            a.image();
            a.see(-1, 0, true);
            for (int leaf : order) {
                a.see((leaf + 1) % 4, 12, true);
            }
            a.see(-1, 0, true);
            a.undo();
            is(5, a.count(3));
            for (int leaf = 0; leaf < 4; leaf++) {
                is(21 - leaf, a.sheet(leaf, 5));
                is(20 + leaf, a.sheet(leaf, 6));
            }
        }
    }

    @Of(part = "Terms 2", says = "SEEN, the PLAN, the BOOK")
    static void imageOfThePlan() {
        // Ten STEPS; four STEPS and all six at PLACE 0; the same the other way round.
        int[][] plans = {
            {-1, -1, -1, -1, -1, -1, -1, -1, -1, -1},
            {-1, -1, -1, -1, 5, 4, 3, 2, 1, 0},
            {0, 1, 2, 3, 4, 5, -1, -1, -1, -1}};
        int[] ends = {170, 0, 24};
        for (int k = 0; k < plans.length; k++) {
            Atlas a = fourHeld();
            a.library("up 1 p<9;bear 99");
            for (int n : plans[k]) {
                a.plan(n < 0 ? 0 : 3, n);
            }
            is(ends[k], a.ends(1));
            a.image();
            a.plan(-1, 0);
            for (int i = 0; i < 10; i++) {
                a.plan(2, i % 4);
            }
            a.plan(-1, 0);
            a.undo();
            is(10, a.count(4));
            is(ends[k], a.ends(1));
        }
    }

    @Of(part = "Terms 2", says = "SEEN, the PLAN, the BOOK")
    static void imageOfTheBook() {
        Atlas a = fourHeld();
        for (int i = 0; i < 8; i++) {
            a.book(i % 6, i % 6 == 0 ? 0 : 19 + i % 6);
        }
        is(NOT_ANY, a.looked());
        a.image();
        a.book(-1, 0);
        for (int i = 0; i < 8; i++) {
            a.book(5 - i % 6, 50);
        }
        a.book(-1, 0);
        a.undo();
        is(8, a.count(5));
        is(NOT_ANY, a.looked());
        a.walk(5, 50);
        is(5, a.looked());
        a.walk(5, 24);
        a.walk(1, 50);
        is(1, a.looked());
    }

    @Of(part = "Terms 2",
        says = "THE IMAGE: PEOPLE with all that is theirs, LEAVES, DROPS, STEP, SEEN, the PLAN, the BOOK, "
        + "which LIBRARY holds.")
    static void imageIsOfNothingElse() {
        Atlas a = Atlas.ones(5);
        a.image();
        a.tapeOf(0, 0, 7, 8);
        a.tapeOf(5, 4, 1);
        a.act(0, 2, 3);
        a.library("bear 1");
        a.feedAll("bear");
        a.undo();
        is(8, a.read(0, 1));
        is(1, a.read(5, 0));
        is(3, a.count(7));
        is(12, a.trace(0));
        is(10, a.trace(2));
        is(1, a.count(2));
        is(4, a.count(6));
        is(1, a.library(" 7"));
        is(7, a.told(1));
        is(1, a.undo());
    }

    @Of(part = "Terms 2", says = "which LIBRARY holds")
    static void imageOfTheLibraryThatHolds() {
        Atlas a = Atlas.ones(50);
        a.image();
        a.library("bear 1;up 1 p=0");
        a.undo();
        is(6, a.told(1));
        is(0, a.of(0, 4));
        is(1, a.count(2));
        a.library("bear 2;up 2 p=0");
        a.image();
        a.library("bear 3;up 3 p=0");
        is(3, a.told(1));
        a.undo();
        is(2, a.told(1));
        is(2, a.of(0, 4));
        is(3, a.count(2));
        is(3, a.library("bear 4"));
        is(4, a.told(1));
    }
}
