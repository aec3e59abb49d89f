/** Boundary cases of promises 1 to 10: a new object, people, leaves. */
final class PeopleEdges extends Edge {

    // ---- 1: a new object

    @Of(part = "Promise 1", says = "No PEOPLE")
    static void newHasNoPeople() {
        Atlas a = new Atlas();
        is(0, a.count(0));
        is(LOW_NONE, a.of(0, 0));
        is(NO, a.mean(0, 0));
        is(NOTHING, a.taken(0, 0));
        is(0, a.image());
    }

    @Of(part = "Promise 1", says = "No PEOPLE, no LEAVES, no LIBRARY.")
    static void newBesideAFullOne() {
        Atlas full = Halls.full();
        full.image();
        full.act(0, 2, 0);
        full.tape(0, 0, 60);
        full.pass(60);
        Atlas a = new Atlas();
        for (int what = 0; what <= 7; what++) {
            is(0, a.count(what));
        }
        int[] told = {0, 6, 0, 0, 0};
        for (int what = 0; what <= 4; what++) {
            is(told[what], a.told(what));
        }
        is(NONE, a.trace(0));
        is(NO, a.read(0, 0));
        is(STATE, a.undo());
        is(0, a.one(0, 0, 0));
        is(6, full.count(0));
    }

    @Of(part = "Promise 1", says = "no LEAVES")
    static void newHasNoLeaves() {
        Atlas a = new Atlas();
        is(0, a.count(1));
        is(NONE, a.sheet(0, 0));
        is(LOW_NONE, a.gap(0));
        is(NONE, a.free(0));
        is(0, a.told(3));
        is(0, a.told(4));
    }

    @Of(part = "Promise 1", says = "no LIBRARY")
    static void newHasNoLibrary() {
        Atlas a = new Atlas();
        is(0, a.count(2));
        is(6, a.told(1));
        is(0, a.count(6));
        a.one(0, 9, 50);
        is(0, a.of(0, 4));
        is(0, a.library("bear 1"));
    }

    // ---- 2: one

    @Of(part = "Promise 2", says = "One more at a PLACE: its number.")
    static void oneIsNumberedFromZero() {
        Atlas a = new Atlas();
        for (int p = 0; p < 6; p++) {
            is(p, a.one(p, p + 1, p * 11));
            is(p + 1, a.count(0));
        }
        for (int p = 0; p < 6; p++) {
            is(p, a.of(p, 0));
            is(p + 1, a.of(p, 1));
            is(p * 11, a.of(p, 2));
        }
    }

    @Of(part = "Promise 2", says = "NONE: kind")
    static void oneOfNoKind() {
        Atlas a = new Atlas();
        for (int kind : outside(0, 6)) {
            is(NONE, a.one(kind, 5, 50));
        }
        is(0, a.one(0, 5, 50));
        is(1, a.one(6, 5, 50));
        is(0, a.of(0, 0));
        is(6, a.of(1, 0));
    }

    @Of(part = "Promise 2", says = "BAD: v, spot (0 .. 99)")
    static void oneWithABadV() {
        Atlas a = new Atlas();
        for (int v : outside(0, 9)) {
            is(BAD, a.one(1, v, 50));
        }
        is(0, a.one(1, 0, 50));
        is(1, a.one(1, 9, 50));
        is(0, a.of(0, 1));
        is(9, a.of(1, 1));
    }

    @Of(part = "Promise 2", says = "spot (0 .. 99)")
    static void oneAtABadSpot() {
        Atlas a = new Atlas();
        for (int spot : outside(0, 99)) {
            is(BAD, a.one(1, 5, spot));
        }
        is(0, a.one(1, 5, 0));
        is(1, a.one(1, 5, 99));
        is(0, a.of(0, 2));
        is(99, a.of(1, 2));
    }

    @Of(part = "Promise 2", says = "FULL: 6")
    static void oneMoreThanSix() {
        Atlas a = new Atlas();
        for (int p = 0; p < 5; p++) {
            a.one(0, 0, 0);
        }
        is(5, a.one(0, 0, 0));
        is(FULL, a.one(0, 0, 0));
        is(FULL, a.one(6, 9, 99));
        is(6, a.count(0));
    }

    @Of(part = "Promise 2", says = "NONE: kind; BAD: v, spot (0 .. 99); FULL: 6")
    static void oneRefusesInOrder() {
        Atlas a = Halls.some();
        is(NONE, a.one(7, 10, 50));
        is(NONE, a.one(-1, 5, 100));
        is(NONE, a.one(7, -1, -1));
        a.one(0, 0, 0);
        a.one(0, 0, 0);
        is(NONE, a.one(7, 5, 50));
        is(NONE, a.one(7, 10, 100));
        is(BAD, a.one(0, 10, 50));
        is(BAD, a.one(0, 5, 100));
        is(FULL, a.one(0, 5, 50));
    }

    @Of(part = "Promise 2", says = "NONE: kind; BAD: v, spot (0 .. 99); FULL: 6")
    static void oneRefusedChangesNothing() {
        changesNothing(Halls::some, a -> {
            is(NONE, a.one(7, 5, 50));
            is(BAD, a.one(6, 10, 50));
            is(BAD, a.one(6, 5, 100));
        });
        changesNothing(Halls::full, a -> is(FULL, a.one(2, 3, 55)));
    }

    // ---- 3: of

    @Of(part = "Promise 3", says = "Of one what 0 KIND, 1 v, 2 PLACE, 3 how many LEAVES it holds, 4 DRIFT.")
    static void ofWhat() {
        Atlas a = Halls.some();
        int[][] due = {{6, 4, 10, 1, 6}, {1, 3, 34, 2, 4}, {5, 7, 50, 1, 1}, {4, 2, 52, 0, 0}};
        for (int p = 0; p < due.length; p++) {
            for (int what = 0; what < due[p].length; what++) {
                is(due[p][what], a.of(p, what));
            }
        }
    }

    @Of(part = "Promise 3", says = "-10001: NONE")
    static void ofNobody() {
        Atlas a = Halls.some();
        for (int what = 0; what <= 4; what++) {
            for (int person : outside(0, 3)) {
                is(LOW_NONE, a.of(person, what));
            }
            is(LOW_NONE, a.of(5, what));
        }
    }

    @Of(part = "Promise 3", says = "-10001: NONE")
    static void ofNoWhat() {
        Atlas a = Halls.some();
        for (int what : outside(0, 4)) {
            is(LOW_NONE, a.of(0, what));
            is(LOW_NONE, a.of(3, what));
            is(LOW_NONE, a.of(4, what));
        }
    }

    @Of(part = "Promise 3", says = "-10001: NONE")
    static void ofChangesNothing() {
        changesNothing(Halls::some, a -> {
            for (int what = -1; what <= 5; what++) {
                for (int person = -1; person <= 6; person++) {
                    a.of(person, what);
                }
            }
        });
    }

    // ---- 4: leaf

    @Of(part = "Promise 4", says = "A LEAF of a LENGTH (1 .. 40): its number.")
    static void leafIsNumberedFromZero() {
        Atlas a = new Atlas();
        int[] lengths = {1, 40, 2, 39};
        for (int leaf = 0; leaf < 4; leaf++) {
            is(leaf, a.leaf(lengths[leaf]));
            is(leaf + 1, a.count(1));
        }
        for (int leaf = 0; leaf < 4; leaf++) {
            is(lengths[leaf], a.sheet(leaf, 0));
        }
    }

    @Of(part = "Promise 4", says = "BAD")
    static void leafOfABadLength() {
        Atlas a = new Atlas();
        for (int length : outside(1, 40)) {
            is(BAD, a.leaf(length));
        }
        is(0, a.leaf(1));
        is(1, a.leaf(40));
    }

    @Of(part = "Promise 4", says = "FULL: 4")
    static void leafMoreThanFour() {
        Atlas a = new Atlas();
        for (int leaf = 0; leaf < 3; leaf++) {
            a.leaf(5);
        }
        is(3, a.leaf(5));
        is(FULL, a.leaf(5));
        is(FULL, a.leaf(1));
        is(FULL, a.leaf(40));
        is(4, a.count(1));
    }

    @Of(part = "Promise 4", says = "BAD; FULL: 4")
    static void leafRefusesInOrder() {
        Atlas a = Halls.full();
        is(BAD, a.leaf(0));
        is(BAD, a.leaf(41));
        is(FULL, a.leaf(40));
    }

    @Of(part = "Promise 4", says = "BAD; FULL: 4")
    static void leafRefusedChangesNothing() {
        changesNothing(Halls::some, a -> {
            is(BAD, a.leaf(0));
            is(BAD, a.leaf(41));
        });
        changesNothing(Halls::full, a -> is(FULL, a.leaf(7)));
    }

    // ---- 5: sheet

    @Of(part = "Promise 5", says = "Of a LEAF what 0 LENGTH")
    static void sheetLength() {
        Atlas a = new Atlas();
        a.leaf(1);
        a.leaf(40);
        is(1, a.sheet(0, 0));
        is(40, a.sheet(1, 0));
    }

    @Of(part = "Promise 5", says = "1 the first, 2 the second HOLDER (-5: none)")
    static void sheetHolders() {
        Atlas a = Atlas.ones(1, 2, 3, 4, 5, 6);
        a.leaf(40);
        a.leaf(40);
        is(NOT_ANY, a.sheet(0, 1));
        is(NOT_ANY, a.sheet(0, 2));
        a.hold(0, 5, 0);
        is(5, a.sheet(0, 1));
        is(0, a.sheet(0, 2));
        is(NOT_ANY, a.sheet(1, 1));
        is(NOT_ANY, a.sheet(1, 2));
        a.free(0);
        is(NOT_ANY, a.sheet(0, 1));
        is(NOT_ANY, a.sheet(0, 2));
    }

    @Of(part = "Promise 5", says = "3 LASTS (-5)")
    static void sheetLasts() {
        Atlas a = Atlas.ones(0, 50);
        a.leaf(40);
        is(NOT_ANY, a.sheet(0, 3));
        a.hold(0, 0, 1);
        is(1, a.sheet(0, 3));
        a.walk(1, 46);
        is(NOT_ANY, a.sheet(0, 3));
    }

    @Of(part = "Promise 5", says = "4 PARTNER (-5)")
    static void sheetPartner() {
        Atlas a = Atlas.ones(0, 50, 60, 30);
        a.leaf(40);
        is(NOT_ANY, a.sheet(0, 4));
        a.hold(0, 0, 1);
        is(3, a.sheet(0, 4));
        a.walk(3, 60);
        is(NOT_ANY, a.sheet(0, 4));
    }

    @Of(part = "Promise 5", says = "5 LENGTHS: how many")
    static void sheetHowManyLengths() {
        Atlas a = Atlas.ones(0, 30);
        a.leaf(7);
        is(40, a.sheet(0, 5));
        a.hold(0, 0, 1);
        a.see(0, 0, true);
        is(29, a.sheet(0, 5));
        a.see(0, 0, false);
        is(0, a.sheet(0, 5));
    }

    @Of(part = "Promise 5", says = "6 the least (-5)")
    static void sheetLeastLength() {
        Atlas a = Atlas.ones(0, 30);
        a.leaf(7);
        is(1, a.sheet(0, 6));
        a.hold(0, 0, 1);
        a.see(0, 0, false);
        is(30, a.sheet(0, 6));
        a.see(0, 0, true);
        is(NOT_ANY, a.sheet(0, 6));
    }

    @Of(part = "Promise 5", says = "NONE")
    static void sheetOfNoLeaf() {
        Atlas a = Halls.some();
        for (int what = 0; what <= 6; what++) {
            for (int leaf : outside(0, 2)) {
                is(NONE, a.sheet(leaf, what));
            }
        }
    }

    @Of(part = "Promise 5", says = "NONE")
    static void sheetOfNoWhat() {
        Atlas a = Halls.some();
        for (int what : outside(0, 6)) {
            is(NONE, a.sheet(0, what));
            is(NONE, a.sheet(2, what));
            is(NONE, a.sheet(3, what));
        }
    }

    @Of(part = "Promise 5", says = "NONE")
    static void sheetChangesNothing() {
        changesNothing(Halls::some, a -> {
            for (int what = -1; what <= 7; what++) {
                for (int leaf = -1; leaf <= 4; leaf++) {
                    a.sheet(leaf, what);
                }
            }
        });
    }

    // ---- 6: gap

    @Of(part = "Promise 6", says = "GAP of a LEAF.")
    static void gapOfALeaf() {
        Atlas a = Atlas.ones(0, 99, 0);
        a.leaf(1);
        a.leaf(40);
        a.hold(0, 0, 1);
        a.hold(1, 2, 0);
        is(98, a.gap(0));
        is(-40, a.gap(1));
    }

    @Of(part = "Promise 6", says = "-10001: NONE")
    static void gapOfNoLeaf() {
        Atlas a = Halls.some();
        for (int leaf : outside(0, 2)) {
            is(LOW_NONE, a.gap(leaf));
        }
        is(LOW_NONE, new Atlas().gap(0));
    }

    @Of(part = "Promise 6", says = "-10003: STATE: it is not held")
    static void gapOfALeafThatIsNotHeld() {
        Atlas a = Atlas.ones(0, 50);
        a.leaf(5);
        is(LOW_STATE, a.gap(0));
        a.hold(0, 0, 1);
        is(45, a.gap(0));
        a.free(0);
        is(LOW_STATE, a.gap(0));
        a.hold(0, 0, 1);
        a.pass(1);
        is(LOW_STATE, a.gap(0));
    }

    @Of(part = "Promise 6", says = "-10001: NONE; -10003: STATE: it is not held.")
    static void gapRefusedChangesNothing() {
        changesNothing(Halls::some, a -> {
            is(LOW_NONE, a.gap(3));
            is(LOW_NONE, a.gap(-1));
            is(LOW_STATE, a.gap(2));
        });
    }

    // ---- 7: hold

    @Of(part = "Promise 7", says = "1 if it is TAUT then, else 0")
    static void holdTellsWhetherItIsTaut() {
        Atlas a = Atlas.ones(0, 39, 40, 41, 99);
        a.leaf(40);
        is(0, a.hold(0, 0, 1));
        is(0, a.hold(0, 0, 2));
        is(1, a.hold(0, 0, 3));
        is(0, a.hold(0, 2, 0));
        is(1, a.hold(0, 3, 0));
        is(1, a.hold(0, 4, 0));
        is(4, a.sheet(0, 1));
        is(0, a.sheet(0, 2));
    }

    @Of(part = "Promise 7", says = "A LEAF is held by two: 1 if it is TAUT then, else 0.")
    static void holdOfALeafThatIsHeld() {
        Atlas a = Atlas.ones(0, 10, 20, 30, 99, 98);
        for (int leaf = 0; leaf < 4; leaf++) {
            a.leaf(10);
        }
        is(0, a.hold(3, 4, 5));
        is(1, a.hold(3, 5, 0));
        is(5, a.sheet(3, 1));
        is(0, a.sheet(3, 2));
        is(0, a.of(4, 3));
        is(1, a.of(5, 3));
        is(0, a.told(2));
        is(8, a.told(4));
        is(88, a.gap(3));
    }

    @Of(part = "Promise 7", says = "NONE: leaf, person, other")
    static void holdOfNoLeaf() {
        Atlas a = Halls.some();
        for (int leaf : outside(0, 2)) {
            is(NONE, a.hold(leaf, 0, 1));
        }
        is(1, a.hold(2, 1, 2));
    }

    @Of(part = "Promise 7", says = "NONE: leaf, person, other")
    static void holdByNobody() {
        Atlas a = Halls.some();
        for (int person : outside(0, 3)) {
            is(NONE, a.hold(0, person, 1));
            is(NONE, a.hold(0, 1, person));
        }
        is(1, a.hold(0, 3, 0));
        is(1, a.hold(0, 0, 3));
    }

    @Of(part = "Promise 7", says = "BAD: one is both")
    static void holdByOneWhoIsBoth() {
        Atlas a = Halls.some();
        for (int p = 0; p <= 3; p++) {
            is(BAD, a.hold(0, p, p));
        }
    }

    @Of(part = "Promise 7", says = "NONE: leaf, person, other; BAD: one is both")
    static void holdRefusesInOrder() {
        Atlas a = Halls.some();
        is(NONE, a.hold(3, 0, 0));
        is(NONE, a.hold(-1, 3, 3));
        is(NONE, a.hold(0, 4, 4));
        is(NONE, a.hold(0, -1, -1));
        is(BAD, a.hold(2, 3, 3));
    }

    @Of(part = "Promise 7", says = "NONE: leaf, person, other; BAD: one is both")
    static void holdRefusedChangesNothing() {
        changesNothing(Halls::some, a -> {
            is(NONE, a.hold(3, 0, 1));
            is(NONE, a.hold(0, 4, 2));
            is(NONE, a.hold(0, 2, 4));
            is(BAD, a.hold(0, 2, 2));
            is(BAD, a.hold(2, 0, 0));
        });
    }

    // ---- 8: free

    @Of(part = "Promise 8", says = "A LEAF that is held is let go (DROPS as they are): who was its second HOLDER.")
    static void freeTellsTheSecondHolder() {
        Atlas a = Atlas.ones(0, 99, 50, 50, 50, 50);
        a.leaf(1);
        a.leaf(1);
        a.hold(0, 0, 1);
        a.hold(1, 5, 0);
        is(1, a.free(0));
        is(0, a.free(1));
        is(0, a.told(2));
        is(0, a.told(4));
        is(0, a.of(0, 3));
    }

    @Of(part = "Promise 8", says = "NONE")
    static void freeOfNoLeaf() {
        Atlas a = Halls.some();
        for (int leaf : outside(0, 2)) {
            is(NONE, a.free(leaf));
        }
        is(1, a.free(0));
    }

    @Of(part = "Promise 8", says = "STATE: it is not held")
    static void freeOfALeafThatIsNotHeld() {
        Atlas a = Halls.some();
        is(STATE, a.free(2));
        is(2, a.free(1));
        is(STATE, a.free(1));
    }

    @Of(part = "Promise 8", says = "NONE; STATE: it is not held")
    static void freeRefusedChangesNothing() {
        changesNothing(Halls::some, a -> {
            is(NONE, a.free(3));
            is(NONE, a.free(-1));
            is(STATE, a.free(2));
        });
    }

    // ---- 9: walk

    @Of(part = "Promise 9", says = "One is at a PLACE (0 .. 99): where it was.")
    static void walkFromEndToEnd() {
        Atlas a = Atlas.ones(7, 8);
        is(7, a.walk(0, 0));
        is(0, a.walk(0, 99));
        is(99, a.walk(0, 99));
        is(99, a.of(0, 2));
        is(8, a.of(1, 2));
    }

    @Of(part = "Promise 9", says = "NONE")
    static void walkOfNobody() {
        Atlas a = Halls.some();
        for (int person : outside(0, 3)) {
            is(NONE, a.walk(person, 5));
        }
        is(52, a.walk(3, 5));
    }

    @Of(part = "Promise 9", says = "BAD")
    static void walkToABadPlace() {
        Atlas a = Halls.some();
        for (int spot : outside(0, 99)) {
            is(BAD, a.walk(3, spot));
        }
        is(52, a.of(3, 2));
    }

    @Of(part = "Promise 9", says = "NONE; BAD")
    static void walkRefusesInOrder() {
        Atlas a = Halls.some();
        is(NONE, a.walk(4, 100));
        is(NONE, a.walk(-1, -1));
    }

    @Of(part = "Promise 9", says = "NONE; BAD")
    static void walkRefusedChangesNothing() {
        changesNothing(Halls::some, a -> {
            is(NONE, a.walk(4, 5));
            is(BAD, a.walk(0, 100));
            is(BAD, a.walk(1, -1));
        });
    }

    // ---- 10: row

    @Of(part = "Promise 10",
        says = "The ROW of a TOLD one becomes n (0 .. 9) for STEPS modulo 4 being part: what it was.")
    static void rowTellsWhatItWas() {
        Atlas a = new Atlas();
        a.one(6, 0, 50);
        a.one(6, 0, 50);
        for (int part = 0; part < 4; part++) {
            is(0, a.row(0, part, 9 - part));
        }
        for (int part = 0; part < 4; part++) {
            is(9 - part, a.row(0, part, 0));
            is(0, a.row(0, part, 9));
            is(0, a.row(1, part, 9));
        }
    }

    @Of(part = "Promise 10", says = "NONE: person, part")
    static void rowOfNobody() {
        Atlas a = Halls.some();
        for (int person : outside(0, 3)) {
            is(NONE, a.row(person, 0, 5));
        }
        is(9, a.row(0, 0, 5));
    }

    @Of(part = "Promise 10", says = "NONE: person, part")
    static void rowOfNoPart() {
        Atlas a = Halls.some();
        for (int part : outside(0, 3)) {
            is(NONE, a.row(0, part, 5));
        }
        is(9, a.row(0, 0, 5));
        is(0, a.row(0, 3, 5));
    }

    @Of(part = "Promise 10", says = "n (0 .. 9)")
    static void rowOfABadNumber() {
        Atlas a = Halls.some();
        for (int n : outside(0, 9)) {
            is(BAD, a.row(0, 0, n));
        }
        is(9, a.row(0, 0, 0));
        is(0, a.row(0, 0, 9));
    }

    @Of(part = "Promise 10", says = "STATE: another KIND")
    static void rowOfAnotherKind() {
        Atlas a = new Atlas();
        for (int kind = 0; kind <= 5; kind++) {
            a.one(kind, 5, 50);
            is(STATE, a.row(kind, 0, 5));
            is(STATE, a.row(kind, 3, 0));
        }
        Atlas b = new Atlas();
        b.one(6, 5, 50);
        is(0, b.row(0, 0, 5));
    }

    @Of(part = "Promise 10", says = "NONE: person, part; BAD; STATE: another KIND")
    static void rowRefusesInOrder() {
        Atlas a = Halls.some();
        is(NONE, a.row(4, 0, 10));
        is(NONE, a.row(0, 4, 10));
        is(NONE, a.row(1, 4, 5));
        is(NONE, a.row(1, -1, -1));
        is(BAD, a.row(1, 0, 10));
        is(BAD, a.row(1, 3, -1));
        is(STATE, a.row(1, 0, 9));
    }

    @Of(part = "Promise 10", says = "NONE: person, part; BAD; STATE: another KIND")
    static void rowRefusedChangesNothing() {
        changesNothing(Halls::some, a -> {
            is(NONE, a.row(4, 0, 5));
            is(NONE, a.row(0, 4, 5));
            is(NONE, a.row(0, -1, 5));
            is(BAD, a.row(0, 0, 10));
            is(BAD, a.row(0, 1, -1));
            is(STATE, a.row(1, 0, 5));
        });
    }
}
