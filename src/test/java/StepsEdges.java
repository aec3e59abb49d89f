/** Boundary cases of promises 14 to 17: pass, on, meets, best. */
final class StepsEdges extends Edge {

    // ---- 14: pass

    @Of(part = "Promise 14", says = "n STEPS (0 .. 60) go: STEP.")
    static void passFromNoneToSixty() {
        Atlas a = Atlas.ones(0, 99);
        a.library("up 1 p=0;down 1 p=1");
        is(0, a.pass(0));
        is(0, a.of(0, 2));
        is(1, a.pass(1));
        is(1, a.of(0, 2));
        is(61, a.pass(60));
        is(61, a.of(0, 2));
        is(38, a.of(1, 2));
        is(61, a.told(0));
    }

    @Of(part = "Promise 14", says = "BAD")
    static void passOfABadNumber() {
        Atlas a = Halls.some();
        for (int n : outside(0, 60)) {
            is(BAD, a.pass(n));
        }
        is(1, a.told(0));
    }

    /** At this STEP, with someone who walks. */
    private static Atlas atStep(int step) {
        Atlas a = Atlas.ones(0);
        a.library("up 1 p=0&s=0;up 2 p=0&s=9");
        for (int i = 0; i < step / 60; i++) {
            a.pass(60);
        }
        a.pass(step % 60);
        a.walk(0, 0);
        return a;
    }

    @Of(part = "Promise 14", says = "STATE: it would be above 9999")
    static void passAbove9999() {
        Atlas a = atStep(9939);
        is(9939, a.told(0));
        is(9999, a.pass(60));
        is(STATE, a.pass(1));
        is(STATE, a.pass(60));
        is(9999, a.pass(0));
        Atlas b = atStep(9940);
        is(STATE, b.pass(60));
        is(9940, b.told(0));
        is(9999, b.pass(59));
        Atlas c = atStep(9998);
        is(STATE, c.pass(2));
        is(9999, c.pass(1));
    }

    @Of(part = "Promise 14", says = "BAD; STATE: it would be above 9999")
    static void passRefusesInOrder() {
        Atlas a = atStep(9999);
        is(BAD, a.pass(61));
        is(BAD, a.pass(-1));
        is(BAD, a.pass(MOST));
        is(BAD, a.pass(LEAST));
        is(STATE, a.pass(60));
    }

    @Of(part = "Promise 14", says = "BAD; STATE: it would be above 9999")
    static void passRefusedChangesNothing() {
        changesNothing(Halls::some, a -> {
            is(BAD, a.pass(-1));
            is(BAD, a.pass(61));
        });
        changesNothing(() -> atStep(9980), a -> {
            is(STATE, a.pass(20));
            is(STATE, a.pass(60));
        });
    }

    // ---- 15: on

    @Of(part = "Promise 15",
        says = "ON: what 0 DROPS, 1 which LEAVES are TAUT, 2 which are held, 10 and p PLACE of PERSON p.")
    static void onWhat() {
        Atlas a = Atlas.ones(0, 30, 80, 10, 99, 55);
        a.leaf(9);
        a.leaf(15);
        a.leaf(40);
        a.hold(0, 0, 3);
        a.hold(1, 1, 2);
        a.hold(2, 2, 4);
        a.library("up 1 p=3;up 2 p=5");
        is(0, a.on(0, 0));
        is(3, a.on(0, 1));
        is(7, a.on(0, 2));
        is(1, a.on(1, 0));
        is(0, a.on(1, 1));
        is(5, a.on(1, 2));
        int[] due = {1, 30, 80, 10, 99, 57};
        for (int p = 0; p < 6; p++) {
            is(due[p], a.on(1, 10 + p));
        }
    }

    @Of(part = "Promise 15", says = "NONE")
    static void onNoWhat() {
        Atlas a = Halls.some();
        for (int what : outside(0, 2)) {
            is(NONE, a.on(5, what));
        }
        for (int what : outside(10, 13)) {
            is(NONE, a.on(5, what));
        }
        is(52, a.on(0, 13));
        a.one(0, 0, 9);
        is(9, a.on(0, 14));
        a.one(0, 0, 8);
        is(8, a.on(0, 15));
        is(NONE, a.on(0, 16));
        is(NONE, new Atlas().on(0, 10));
    }

    @Of(part = "Promise 15", says = "BAD: n")
    static void onABadNumber() {
        Atlas a = Halls.some();
        for (int n : outside(0, 60)) {
            is(BAD, a.on(n, 0));
            is(BAD, a.on(n, 1));
            is(BAD, a.on(n, 2));
            is(BAD, a.on(n, 10));
            is(BAD, a.on(n, 13));
        }
    }

    @Of(part = "Promise 15", says = "NONE; BAD: n")
    static void onRefusesInOrder() {
        Atlas a = Halls.some();
        is(NONE, a.on(61, 3));
        is(NONE, a.on(-1, -1));
        is(NONE, a.on(61, 14));
        is(NONE, a.on(LEAST, 9));
    }

    @Of(part = "Promise 15", says = "NONE; BAD: n")
    static void onRefusedChangesNothing() {
        changesNothing(Halls::some, a -> {
            is(NONE, a.on(5, 14));
            is(BAD, a.on(61, 0));
            is(BAD, a.on(-1, 10));
        });
    }

    // ---- 16: meets

    @Of(part = "Promise 16", says = "MEETS; -5.")
    static void meetsOrNot() {
        Atlas a = Atlas.ones(0, 60, 61, 0);
        a.library("up 1 p=0");
        is(0, a.meets(3, 0));
        is(60, a.meets(0, 1));
        is(NOT_ANY, a.meets(0, 2));
        is(NOT_ANY, a.meets(1, 2));
    }

    @Of(part = "Promise 16", says = "NONE")
    static void meetsNobody() {
        Atlas a = Halls.some();
        for (int person : outside(0, 3)) {
            is(NONE, a.meets(person, 0));
            is(NONE, a.meets(0, person));
        }
    }

    @Of(part = "Promise 16", says = "BAD: one is both")
    static void meetsOneself() {
        Atlas a = Halls.some();
        for (int p = 0; p <= 3; p++) {
            is(BAD, a.meets(p, p));
        }
    }

    @Of(part = "Promise 16", says = "NONE; BAD: one is both")
    static void meetsRefusesInOrder() {
        Atlas a = Halls.some();
        for (int person : outside(0, 3)) {
            is(NONE, a.meets(person, person));
        }
    }

    @Of(part = "Promise 16", says = "NONE; BAD: one is both")
    static void meetsRefusedChangesNothing() {
        changesNothing(Halls::some, a -> {
            is(NONE, a.meets(0, 4));
            is(NONE, a.meets(-1, 0));
            is(BAD, a.meets(2, 2));
        });
    }

    // ---- 17: best

    @Of(part = "Promise 17", says = "What 0 CHANGE, 1 SPARE (bits); -5.")
    static void bestWhat() {
        Atlas a = Atlas.ones(0, 50, 5);
        a.leaf(10);
        a.leaf(10);
        is(NOT_ANY, a.best(1, 0));
        is(NOT_ANY, a.best(1, 1));
        a.hold(1, 0, 1);
        is(12, a.best(1, 0));
        is(2, a.best(1, 1));
    }

    @Of(part = "Promise 17", says = "NONE: what")
    static void bestOfNoWhat() {
        Atlas a = Halls.some();
        for (int what : outside(0, 1)) {
            is(NONE, a.best(5, what));
        }
    }

    @Of(part = "Promise 17", says = "BAD: n")
    static void bestOfABadNumber() {
        Atlas a = Halls.some();
        for (int n : outside(1, 20)) {
            is(BAD, a.best(n, 0));
            is(BAD, a.best(n, 1));
        }
        is(NOT_ANY, a.best(1, 0));
        is(NOT_ANY, a.best(1, 1));
        is(NOT_ANY, new Atlas().best(20, 0));
        is(NOT_ANY, new Atlas().best(20, 1));
    }

    @Of(part = "Promise 17", says = "NONE: what; BAD: n")
    static void bestRefusesInOrder() {
        Atlas a = Halls.some();
        is(NONE, a.best(0, 2));
        is(NONE, a.best(21, -1));
        is(NONE, a.best(LEAST, MOST));
    }

    @Of(part = "Promise 17", says = "NONE: what; BAD: n")
    static void bestRefusedChangesNothing() {
        changesNothing(Halls::some, a -> {
            is(NONE, a.best(5, 2));
            is(BAD, a.best(0, 0));
            is(BAD, a.best(21, 1));
        });
    }
}
