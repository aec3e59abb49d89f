/** Boundary cases of promises 18 to 25: see, can, odds, mean, plan, ends, book, looked. */
final class SeenEdges extends Edge {

    // ---- 18: see

    @Of(part = "Promise 18", says = "What is SEEN comes: how many there are")
    static void seeTellsHowMany() {
        Atlas a = Halls.some();
        is(3, a.see(0, 0, true));
        is(4, a.see(2, 12, false));
        is(5, a.see(2, 12, false));
        is(5, a.count(3));
    }

    @Of(part = "Promise 18", says = "(leaf -1: none then, 0, whatever the rest is)")
    static void seeNoneAnyMore() {
        int[] rest = {0, 12, 13, -1, LEAST, MOST};
        for (int n : rest) {
            Atlas a = Halls.full();
            is(5, a.count(3));
            is(0, a.see(-1, n, true));
            is(0, a.count(3));
            is(40, a.sheet(0, 5));
            is(0, a.see(-1, n, false));
            is(1, a.see(0, 0, true));
        }
        is(0, new Atlas().see(-1, 99, true));
    }

    @Of(part = "Promise 18", says = "NONE")
    static void seeNoLeaf() {
        Atlas a = Halls.some();
        int[] leaves = {-2, 3, LEAST, MOST};
        for (int leaf : leaves) {
            is(NONE, a.see(leaf, 5, true));
        }
        is(3, a.see(2, 5, true));
        is(NONE, new Atlas().see(0, 5, true));
    }

    @Of(part = "Promise 18", says = "BAD: n")
    static void seeABadNumber() {
        Atlas a = Halls.some();
        for (int n : outside(0, 12)) {
            is(BAD, a.see(0, n, true));
        }
        is(3, a.see(0, 0, true));
        is(4, a.see(0, 12, true));
    }

    @Of(part = "Promise 18", says = "FULL: 5")
    static void seeMoreThanFive() {
        Atlas a = new Atlas();
        a.leaf(5);
        for (int i = 1; i <= 4; i++) {
            a.see(0, i, false);
        }
        is(5, a.see(0, 5, false));
        is(FULL, a.see(0, 6, false));
        is(FULL, a.see(0, 0, true));
        is(5, a.count(3));
    }

    @Of(part = "Promise 18", says = "NONE; BAD: n; FULL: 5")
    static void seeRefusesInOrder() {
        Atlas a = Halls.some();
        is(NONE, a.see(3, 13, true));
        is(NONE, a.see(-2, -1, true));
        Atlas b = Halls.full();
        is(NONE, b.see(4, 5, true));
        is(NONE, b.see(4, 13, true));
        is(BAD, b.see(3, 13, true));
        is(BAD, b.see(3, -1, true));
        is(FULL, b.see(3, 12, true));
    }

    @Of(part = "Promise 18", says = "NONE; BAD: n; FULL: 5")
    static void seeRefusedChangesNothing() {
        changesNothing(Halls::some, a -> {
            is(NONE, a.see(3, 0, true));
            is(NONE, a.see(-2, 0, true));
            is(BAD, a.see(0, 13, true));
            is(BAD, a.see(1, -1, true));
        });
        changesNothing(Halls::full, a -> is(FULL, a.see(0, 0, true)));
    }

    // ---- 19: can

    @Of(part = "Promise 19", says = "CAN: what 0 how many, 1 the least; -5.")
    static void canWhat() {
        Atlas a = new Atlas();
        a.one(0, 0, 0);
        a.one(1, 2, 5);
        a.leaf(10);
        a.hold(0, 0, 1);
        is(10, a.can(1, 0));
        is(0, a.can(1, 1));
        // 5 and v: GAP 3 with 8, drawn to 1; GAP 4 with 9; GAP 2 with 7, drawn to 0.
        a.see(0, 1, true);
        is(2, a.can(1, 0));
        is(8, a.can(1, 1));
        is(0, a.can(0, 0));
        is(NOT_ANY, a.can(0, 1));
        is(2, a.of(1, 1));
    }

    @Of(part = "Promise 19", says = "CAN: what 0 how many, 1 the least; -5.")
    static void canOfTheFirstAndTheLast() {
        Atlas a = new Atlas();
        for (int p = 0; p < 6; p++) {
            a.one(1, 5, p * 10);
        }
        for (int leaf = 0; leaf < 4; leaf++) {
            a.leaf(30);
        }
        a.hold(3, 5, 0);
        a.see(3, 1, false);
        // 0 goes up by 5, 5 by v: with any v GAP is above 6.
        is(10, a.can(5, 0));
        is(10, a.can(0, 0));
        a.walk(5, 32);
        a.see(-1, 0, true);
        a.see(3, 1, true);
        // GAP is v less 3, and 2 less behind the STEP.
        is(4, a.can(5, 0));
        is(6, a.can(5, 1));
        is(0, a.can(1, 0));
        is(NOT_ANY, a.can(1, 1));
    }

    @Of(part = "Promise 19", says = "NONE")
    static void canNobodyOrNoWhat() {
        Atlas a = Halls.some();
        for (int person : outside(0, 3)) {
            is(NONE, a.can(person, 0));
            is(NONE, a.can(person, 1));
        }
        for (int what : outside(0, 1)) {
            is(NONE, a.can(0, what));
            is(NONE, a.can(3, what));
            is(NONE, a.can(4, what));
        }
        is(NONE, new Atlas().can(0, 0));
    }

    @Of(part = "Promise 19", says = "NONE")
    static void canRefusedChangesNothing() {
        changesNothing(Halls::some, a -> {
            is(NONE, a.can(4, 0));
            is(NONE, a.can(0, 2));
            is(NONE, a.can(-1, 1));
        });
    }

    // ---- 20: odds

    @Of(part = "Promise 20", says = "ODDS; part 0 above, 1 below the line.")
    static void oddsParts() {
        Atlas a = Atlas.ones(0, 5, 50, 60);
        a.leaf(10);
        is(1, a.odds(0, 1, 0));
        is(3, a.odds(0, 1, 1));
        a.walk(3, 90);
        is(1, a.odds(0, 1, 0));
        is(6, a.odds(0, 1, 1));
        a.walk(1, 30);
        is(0, a.odds(0, 1, 0));
        is(1, a.odds(0, 1, 1));
        is(1, a.odds(0, 0, 0));
        is(1, a.odds(0, 0, 1));
    }

    @Of(part = "Promise 20", says = "NO: leaf, n, part, as told.")
    static void oddsNo() {
        Atlas a = Halls.some();
        for (int leaf : outside(0, 2)) {
            is(NO, a.odds(leaf, 0, 0));
        }
        for (int n : outside(0, 20)) {
            is(NO, a.odds(2, n, 1));
        }
        for (int part : outside(0, 1)) {
            is(NO, a.odds(2, 0, part));
        }
        is(1, a.odds(2, 0, 0));
        is(1, a.odds(0, 0, 1));
        is(NO, new Atlas().odds(0, 0, 0));
    }

    @Of(part = "Promise 20", says = "as told")
    static void oddsOfFewerThanTwo() {
        Atlas a = new Atlas();
        a.leaf(40);
        is(NO, a.odds(0, 0, 0));
        a.one(0, 0, 0);
        is(NO, a.odds(0, 0, 0));
        is(NO, a.odds(0, 20, 1));
        a.one(0, 0, 0);
        is(1, a.odds(0, 20, 0));
    }

    @Of(part = "Promise 20", says = "NO: leaf, n, part, as told.")
    static void oddsChangesNothing() {
        changesNothing(Halls::some, a -> {
            is(NO, a.odds(3, 0, 0));
            is(NO, a.odds(0, 21, 0));
            is(NO, a.odds(0, 0, 2));
            a.odds(2, 20, 0);
            a.odds(0, 1, 1);
        });
    }

    // ---- 21: mean

    @Of(part = "Promise 21", says = "MEAN; part likewise.")
    static void meanParts() {
        Atlas a = Atlas.ones(0);
        is(0, a.mean(0, 0));
        is(1, a.mean(0, 1));
        a.one(0, 0, 99);
        is(99, a.mean(60, 0));
        is(2, a.mean(60, 1));
        a.one(0, 0, 99);
        is(66, a.mean(0, 0));
        is(1, a.mean(0, 1));
    }

    @Of(part = "Promise 21", says = "NO")
    static void meanNo() {
        Atlas a = Halls.some();
        for (int n : outside(0, 60)) {
            is(NO, a.mean(n, 0));
            is(NO, a.mean(n, 1));
        }
        for (int part : outside(0, 1)) {
            is(NO, a.mean(0, part));
        }
        is(73, a.mean(0, 0));
        is(2, a.mean(0, 1));
        is(NO, new Atlas().mean(0, 0));
        is(NO, new Atlas().mean(0, 1));
    }

    @Of(part = "Promise 21", says = "NO")
    static void meanChangesNothing() {
        changesNothing(Halls::some, a -> {
            is(NO, a.mean(61, 0));
            is(NO, a.mean(0, 2));
            a.mean(60, 0);
        });
    }

    // ---- 22: plan

    @Of(part = "Promise 22", says = "A row comes to the PLAN: how many there are")
    static void planTellsHowMany() {
        Atlas a = Halls.some();
        is(3, a.plan(0, 0));
        is(4, a.plan(1, 2));
        is(5, a.plan(2, 0));
        is(6, a.plan(3, 3));
        is(6, a.count(4));
    }

    @Of(part = "Promise 22", says = "(what -1: it is empty then, 0, whatever the rest is)")
    static void planIsEmptied() {
        int[] rest = {0, -1, 3, 6, LEAST, MOST};
        for (int n : rest) {
            Atlas a = Halls.full();
            is(10, a.count(4));
            is(0, a.plan(-1, n));
            is(0, a.count(4));
            is(150, a.ends(1));
            is(0, a.plan(-1, n));
            is(1, a.plan(0, 0));
        }
        is(0, new Atlas().plan(-1, 99));
    }

    @Of(part = "Promise 22", says = "NONE: what (0 .. 3)")
    static void planOfNoWhat() {
        Atlas a = Halls.some();
        int[] whats = {-2, 4, LEAST, MOST};
        for (int what : whats) {
            is(NONE, a.plan(what, 0));
        }
        is(3, a.plan(3, 0));
        is(4, a.plan(0, 0));
    }

    @Of(part = "Promise 22", says = "leaf (by 1, 2)")
    static void planOfNoLeaf() {
        Atlas a = Halls.some();
        for (int leaf : outside(0, 2)) {
            is(NONE, a.plan(1, leaf));
            is(NONE, a.plan(2, leaf));
        }
        is(3, a.plan(1, 2));
        is(4, a.plan(2, 2));
        is(5, a.plan(1, 0));
        is(6, a.plan(2, 0));
        is(NONE, new Atlas().plan(1, 0));
        is(NONE, Atlas.ones(5).plan(2, 0));
    }

    @Of(part = "Promise 22", says = "person (by 3;")
    static void planOfNobody() {
        Atlas a = Halls.some();
        for (int person : outside(0, 3)) {
            is(NONE, a.plan(3, person));
        }
        is(3, a.plan(3, 3));
        is(4, a.plan(3, 0));
        Atlas b = new Atlas();
        b.leaf(5);
        is(NONE, b.plan(3, 0));
    }

    @Of(part = "Promise 22", says = "by 0 n does not matter")
    static void planOfAStep() {
        Atlas a = Atlas.ones(0);
        a.library("up 1 p=0");
        int[] any = {0, -1, 4, 6, LEAST, MOST};
        int many = 0;
        for (int n : any) {
            many++;
            is(many, a.plan(0, n));
            is(many, a.ends(1));
        }
        is(1, new Atlas().plan(0, 77));
    }

    @Of(part = "Promise 22", says = "FULL: 10")
    static void planMoreThanTen() {
        Atlas a = Atlas.ones(5);
        for (int i = 1; i <= 9; i++) {
            a.plan(3, 0);
        }
        is(10, a.plan(0, 0));
        is(FULL, a.plan(0, 0));
        is(FULL, a.plan(3, 0));
        is(10, a.count(4));
    }

    @Of(part = "Promise 22", says = "FULL: 10")
    static void planRefusesInOrder() {
        Atlas a = Halls.full();
        is(NONE, a.plan(4, 0));
        is(NONE, a.plan(-2, 0));
        is(NONE, a.plan(1, 4));
        is(NONE, a.plan(2, -1));
        is(NONE, a.plan(3, 6));
        is(FULL, a.plan(0, 99));
        is(FULL, a.plan(1, 3));
        is(FULL, a.plan(2, 0));
        is(FULL, a.plan(3, 5));
    }

    @Of(part = "Promise 22", says = "FULL: 10")
    static void planRefusedChangesNothing() {
        changesNothing(Halls::some, a -> {
            is(NONE, a.plan(4, 0));
            is(NONE, a.plan(-2, 0));
            is(NONE, a.plan(1, 3));
            is(NONE, a.plan(2, 3));
            is(NONE, a.plan(3, 4));
        });
        changesNothing(Halls::full, a -> is(FULL, a.plan(3, 5)));
    }

    // ---- 23: ends

    @Of(part = "Promise 23", says = "ENDS: what 0 DROPS, 1 PLACES.")
    static void endsWhat() {
        Atlas a = Atlas.ones(0, 99);
        a.leaf(1);
        a.hold(0, 0, 1);
        is(0, a.ends(0));
        is(99, a.ends(1));
        a.plan(0, 0);
        a.plan(3, 1);
        is(1, a.ends(0));
        is(0, a.ends(1));
        is(0, new Atlas().ends(0));
        is(0, new Atlas().ends(1));
    }

    @Of(part = "Promise 23", says = "NONE")
    static void endsOfNoWhat() {
        Atlas a = Halls.some();
        for (int what : outside(0, 1)) {
            is(NONE, a.ends(what));
        }
    }

    @Of(part = "Promise 23", says = "NONE")
    static void endsChangesNothing() {
        changesNothing(Halls::some, a -> {
            a.ends(-1);
            a.ends(0);
            a.ends(1);
            a.ends(2);
        });
    }

    // ---- 24: book

    @Of(part = "Promise 24", says = "A row comes to the BOOK: how many there are")
    static void bookTellsHowMany() {
        Atlas a = Halls.some();
        is(3, a.book(0, 0));
        is(4, a.book(3, 99));
        is(4, a.count(5));
    }

    @Of(part = "Promise 24", says = "(person -1: it is empty then, 0, whatever the rest is)")
    static void bookIsEmptied() {
        int[] rest = {0, 99, 100, -1, LEAST, MOST};
        for (int spot : rest) {
            Atlas a = Halls.full();
            is(8, a.count(5));
            a.walk(0, 77);
            is(0, a.looked());
            is(0, a.book(-1, spot));
            is(0, a.count(5));
            is(NOT_ANY, a.looked());
            is(0, a.book(-1, spot));
            is(1, a.book(0, 0));
        }
        is(0, new Atlas().book(-1, 100));
    }

    @Of(part = "Promise 24", says = "NONE")
    static void bookOfNobody() {
        Atlas a = Halls.some();
        int[] people = {-2, 4, LEAST, MOST};
        for (int person : people) {
            is(NONE, a.book(person, 50));
        }
        is(3, a.book(3, 50));
        is(NONE, new Atlas().book(0, 0));
    }

    @Of(part = "Promise 24", says = "BAD: spot")
    static void bookOfABadSpot() {
        Atlas a = Halls.some();
        for (int spot : outside(0, 99)) {
            is(BAD, a.book(0, spot));
        }
        is(3, a.book(0, 0));
        is(4, a.book(0, 99));
    }

    @Of(part = "Promise 24", says = "FULL: 8")
    static void bookMoreThanEight() {
        Atlas a = Atlas.ones(5);
        for (int i = 1; i <= 7; i++) {
            a.book(0, 5);
        }
        is(8, a.book(0, 5));
        is(FULL, a.book(0, 6));
        is(FULL, a.book(0, 5));
        is(8, a.count(5));
        is(NOT_ANY, a.looked());
    }

    @Of(part = "Promise 24", says = "NONE; BAD: spot; FULL: 8")
    static void bookRefusesInOrder() {
        Atlas a = Halls.some();
        is(NONE, a.book(4, 100));
        is(NONE, a.book(-2, -1));
        Atlas b = Halls.full();
        is(NONE, b.book(6, 50));
        is(NONE, b.book(6, 100));
        is(BAD, b.book(5, 100));
        is(BAD, b.book(0, -1));
        is(FULL, b.book(5, 99));
    }

    @Of(part = "Promise 24", says = "NONE; BAD: spot; FULL: 8")
    static void bookRefusedChangesNothing() {
        changesNothing(Halls::some, a -> {
            is(NONE, a.book(4, 5));
            is(NONE, a.book(-2, 5));
            is(BAD, a.book(0, 100));
            is(BAD, a.book(0, -1));
        });
        changesNothing(Halls::full, a -> is(FULL, a.book(0, 5)));
    }

    // ---- 25: looked

    @Of(part = "Promise 25", says = "LOOKED at; -5.")
    static void lookedOrNot() {
        is(NOT_ANY, new Atlas().looked());
        Atlas a = Atlas.ones(0, 99);
        for (int i = 0; i < 8; i++) {
            is(NOT_ANY, a.looked());
            a.book(i % 2, i % 2 * 99);
        }
        is(NOT_ANY, a.looked());
        a.walk(1, 98);
        is(1, a.looked());
        a.walk(0, 1);
        is(0, a.looked());
    }

    @Of(part = "Promise 25", says = "LOOKED at; -5.")
    static void lookedChangesNothing() {
        changesNothing(Halls::some, Atlas::looked);
    }
}
