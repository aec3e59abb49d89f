/** Boundary cases of "Terms" 1: PEOPLE, LEAVES, DRIFT, GAP, a STEP. */
final class HallEdges extends Edge {
    private static final int READER = 1, CLERK = 2, WALKER = 3, DREAMER = 4, PORTER = 5, TOLD = 6;

    // ---- PEOPLE and LEAVES

    @Of(part = "Terms 1", says = "PEOPLE 0 .. 5, as they come")
    static void peopleAreNumberedAsTheyCome() {
        Atlas a = new Atlas();
        for (int p = 0; p <= 5; p++) {
            is(LOW_NONE, a.of(p, 0));
            is(p, a.one(0, p, 0));
            is(p, a.of(p, 1));
        }
        is(FULL, a.one(0, 0, 0));
        for (int person : outside(0, 5)) {
            is(LOW_NONE, a.of(person, 0));
        }
    }

    @Of(part = "Terms 1",
        says = "KINDS: 0 ONE; 1 READER, 2 CLERK, 3 WALKER under ONE; 4 DREAMER under READER; 5 PORTER under CLERK; "
            + "6 TOLD under WALKER")
    static void kindsAndWhoIsUnderWhom() {
        int[][] under = {{0}, {0, 1}, {0, 2}, {0, 3}, {0, 1, 4}, {0, 2, 5}, {0, 3, 6}};
        for (int kind = 0; kind <= 6; kind++) {
            Atlas a = new Atlas();
            is(0, a.one(kind, 0, 0));
            for (int k = 0; k <= 6; k++) {
                int of = k;
                boolean isUnder = java.util.Arrays.stream(under[kind]).anyMatch(u -> u == of);
                is(isUnder ? kind : CAST, a.taken(0, k));
            }
        }
    }

    @Of(part = "Terms 1", says = "with a number v (0 .. 9)")
    static void peopleHaveANumber() {
        Atlas a = new Atlas();
        for (int v : outside(0, 9)) {
            is(BAD, a.one(0, v, 0));
        }
        a.one(0, 0, 0);
        a.one(0, 9, 0);
        is(0, a.of(0, 1));
        is(9, a.of(1, 1));
    }

    @Of(part = "Terms 1", says = "a PLACE along the hall (0 .. 99)")
    static void peopleHaveAPlace() {
        Atlas a = new Atlas();
        for (int spot : outside(0, 99)) {
            is(BAD, a.one(0, 0, spot));
        }
        a.one(0, 0, 0);
        a.one(0, 0, 99);
        for (int spot : outside(0, 99)) {
            is(BAD, a.walk(0, spot));
            is(BAD, a.book(0, spot));
        }
        is(0, a.of(0, 2));
        is(99, a.of(1, 2));
    }

    @Of(part = "Terms 1", says = "LEAVES 0 .. 3, as they come")
    static void leavesAreNumberedAsTheyCome() {
        Atlas a = new Atlas();
        for (int leaf = 0; leaf <= 3; leaf++) {
            is(NONE, a.sheet(leaf, 0));
            is(leaf, a.leaf(leaf + 5));
            is(leaf + 5, a.sheet(leaf, 0));
        }
        is(FULL, a.leaf(1));
        for (int leaf : outside(0, 3)) {
            is(NONE, a.sheet(leaf, 0));
        }
    }

    @Of(part = "Terms 1", says = "each with a LENGTH (1 .. 40)")
    static void leavesHaveALength() {
        Atlas a = new Atlas();
        for (int length : outside(1, 40)) {
            is(BAD, a.leaf(length));
        }
        a.leaf(1);
        a.leaf(40);
        is(1, a.sheet(0, 0));
        is(40, a.sheet(1, 0));
    }

    @Of(part = "Terms 1", says = "two HOLDERS, both, or none (none at first)")
    static void leavesHaveTwoHoldersOrNone() {
        Atlas a = Atlas.ones(0, 50);
        for (int leaf = 0; leaf < 4; leaf++) {
            a.leaf(10);
            is(NOT_ANY, a.sheet(leaf, 1));
            is(NOT_ANY, a.sheet(leaf, 2));
            is(LOW_STATE, a.gap(leaf));
        }
        is(0, a.told(4));
        is(0, a.of(0, 3));
        a.hold(3, 0, 1);
        is(0, a.sheet(3, 1));
        is(1, a.sheet(3, 2));
        a.pass(1);
        is(NOT_ANY, a.sheet(3, 1));
        is(NOT_ANY, a.sheet(3, 2));
    }

    @Of(part = "Terms 1", says = "DROPS: 0 .. 9999 (0 at first). STEP: 0 at first.")
    static void dropsAndStepAreZeroAtFirst() {
        Atlas a = new Atlas();
        is(0, a.told(2));
        is(0, a.told(0));
        is(0, a.on(0, 0));
        is(0, a.ends(0));
        is(0, a.pass(0));
    }

    // ---- DRIFT

    /** A person of this KIND, with v 7, at PLACE 50, and two LEAVES, not held. */
    private static Atlas person(int kind) {
        Atlas a = new Atlas();
        a.one(kind, 7, 50);
        a.one(0, 0, 50);
        a.leaf(40);
        a.leaf(40);
        return a;
    }

    /** The DRIFTS of person 0 at STEPS 0, 1 and so on, each looked at ahead of its STEP. */
    private static void drifts(Atlas a, int... due) {
        for (int drift : due) {
            is(drift, a.of(0, 4));
            a.pass(1);
        }
    }

    @Of(part = "Terms 1", says = "DRIFT of one (may be below 0): ONE: SUM.")
    static void driftOfOne() {
        Atlas a = person(0);
        a.hold(0, 0, 1);
        is(0, a.of(0, 4));
        a.library("up 3 p=0");
        drifts(a, 3, 3);
        a.library("down 99 p=0;down 99 p=0");
        drifts(a, -198, -198);
        is(0, a.of(0, 2));
    }

    @Of(part = "Terms 1", says = "READER: SUM and v, if it holds a LEAF; else SUM.")
    static void driftOfAReader() {
        Atlas a = person(READER);
        a.library("down 10 p=0");
        is(-10, a.of(0, 4));
        a.hold(0, 0, 1);
        is(-3, a.of(0, 4));
        a.hold(1, 1, 0);
        is(-3, a.of(0, 4));
        a.free(0);
        is(-3, a.of(0, 4));
        a.free(1);
        is(-10, a.of(0, 4));
    }

    @Of(part = "Terms 1", says = "READER: SUM and v, if it holds a LEAF; else SUM.")
    static void driftOfAReaderWhoseVIsZero() {
        Atlas a = new Atlas();
        a.one(READER, 0, 50);
        a.one(READER, 9, 50);
        a.leaf(40);
        a.hold(0, 0, 1);
        is(0, a.of(0, 4));
        is(9, a.of(1, 4));
    }

    @Of(part = "Terms 1", says = "CLERK: the half (cut toward 0) of SUM.")
    static void driftOfAClerk() {
        int[] sums = {0, 1, 2, 3, 99};
        for (int sum : sums) {
            Atlas a = person(CLERK);
            a.hold(0, 0, 1);
            a.library("up " + sum + " p=0");
            is(sum / 2, a.of(0, 4));
            a.library("down " + sum + " p=0");
            is(-(sum / 2), a.of(0, 4));
        }
    }

    @Of(part = "Terms 1", says = "WALKER: SUM; 0 less SUM, if STEP modulo 8 is 4 or more.")
    static void driftOfAWalker() {
        Atlas a = person(WALKER);
        a.library("up 3 p=0");
        drifts(a, 3, 3, 3, 3, -3, -3, -3, -3, 3, 3, 3, 3, -3, -3, -3, -3, 3);
        Atlas b = person(WALKER);
        b.hold(0, 0, 1);
        b.library("down 3 p=0");
        drifts(b, -3, -3, -3, -3, 3, 3, 3, 3, -3);
    }

    @Of(part = "Terms 1", says = "DREAMER: as READER; 0, if STEP is even.")
    static void driftOfADreamer() {
        Atlas a = person(DREAMER);
        a.library("up 1 p=0");
        drifts(a, 0, 1, 0, 1, 0);
        a.hold(0, 0, 1);
        drifts(a, 8, 0, 8, 0);
        a.free(0);
        drifts(a, 1, 0);
    }

    @Of(part = "Terms 1", says = "PORTER: as CLERK, and how many LEAVES it holds.")
    static void driftOfAPorter() {
        for (int holds = 0; holds <= 4; holds++) {
            Atlas a = new Atlas();
            a.one(PORTER, 7, 50);
            a.one(0, 0, 50);
            for (int leaf = 0; leaf < 4; leaf++) {
                a.leaf(40);
            }
            for (int leaf = 0; leaf < holds; leaf++) {
                a.hold(leaf, leaf % 2, 1 - leaf % 2);
            }
            is(holds, a.of(0, 4));
            a.library("down 3 p=0");
            is(holds - 1, a.of(0, 4));
            a.library("up 3 p=0");
            is(holds + 1, a.of(0, 4));
        }
    }

    @Of(part = "Terms 1",
        says = "TOLD: as WALKER, and its ROW (four numbers 0 .. 9; 0 at first) at STEP modulo 4 more, less 4.")
    static void driftOfATold() {
        Atlas a = person(TOLD);
        drifts(a, -4, -4, -4, -4, -4, -4, -4, -4, -4);
        Atlas b = person(TOLD);
        b.library("up 10 p=0");
        b.row(0, 0, 9);
        b.row(0, 1, 4);
        b.row(0, 3, 1);
        drifts(b, 15, 10, 6, 7, -5, -10, -14, -13, 15, 10);
    }

    @Of(part = "Terms 1", says = "its ROW (four numbers 0 .. 9; 0 at first)")
    static void rowIsOfEachToldOne() {
        Atlas a = new Atlas();
        for (int p = 0; p < 6; p++) {
            a.one(TOLD, 0, 50);
        }
        for (int p = 0; p < 6; p++) {
            is(0, a.row(p, 3, 9));
            is(0, a.row(p, 0, p + 4));
        }
        for (int p = 0; p < 6; p++) {
            is(p, a.of(p, 4));
            is(9, a.row(p, 3, 0));
        }
    }

    // ---- GAP, TAUT

    @Of(part = "Terms 1",
        says = "GAP of a LEAF that is held: how far its HOLDERS are apart, less its LENGTH (may be below 0)")
    static void gapFromTheLeastToTheGreatest() {
        Atlas a = Atlas.ones(0, 99, 99, 40);
        a.leaf(1);
        a.leaf(40);
        a.hold(0, 0, 1);
        is(98, a.gap(0));
        a.hold(0, 1, 0);
        is(98, a.gap(0));
        a.hold(0, 1, 2);
        is(-1, a.gap(0));
        a.hold(1, 1, 2);
        is(-40, a.gap(1));
        a.hold(1, 0, 3);
        is(0, a.gap(1));
    }

    @Of(part = "Terms 1", says = "it is TAUT, if that is above 0")
    static void tautAboveZero() {
        Atlas a = Atlas.ones(20, 29, 30, 31, 10, 9);
        a.leaf(10);
        int[] taut = {0, 0, 1, 0, 1};
        for (int other = 1; other <= 5; other++) {
            is(taut[other - 1], a.hold(0, 0, other));
            is(taut[other - 1], a.told(3));
            is(taut[other - 1], a.on(0, 1));
        }
        a.free(0);
        is(0, a.told(3));
    }

    // ---- a STEP

    @Of(part = "Terms 1", says = "first, by how all is ahead of it, PLACE of each is its DRIFT more")
    static void stepDriftsByHowAllIsAheadOfIt() {
        // The READER lets go in this STEP, but ahead of it it holds: it drifts by v. STEP is 0 yet.
        Atlas a = new Atlas();
        a.one(READER, 5, 20);
        a.one(0, 0, 90);
        a.one(DREAMER, 5, 90);
        a.leaf(40);
        a.hold(0, 0, 1);
        a.library("up 2 s=0;up 30 s=1;up 1 j=0;bear 0");
        a.pass(1);
        is(27, a.of(0, 2));
        is(92, a.of(1, 2));
        is(90, a.of(2, 2));
        is(0, a.told(4));
    }

    @Of(part = "Terms 1",
        says = "first, by how all is ahead of it, PLACE of each is its DRIFT more (0 at least, 99 at most). Then")
    static void stepDriftsAheadOfTheLeaves() {
        // Not TAUT ahead of the STEP, TAUT by the drift; and TAUT ahead of it, but not behind the drift.
        Atlas a = Atlas.ones(0, 10, 30, 41);
        a.leaf(10);
        a.leaf(10);
        a.hold(0, 0, 1);
        a.hold(1, 2, 3);
        a.library("up 2 p=1;down 2 p=3");
        is(2, a.told(3));
        a.pass(1);
        is(1, a.of(0, 2));
        is(11, a.of(1, 2));
        is(30, a.of(2, 2));
        is(39, a.of(3, 2));
    }

    @Of(part = "Terms 1", says = "(0 at least, 99 at most)")
    static void stepKeepsWithinTheHall() {
        Atlas a = Atlas.ones(89, 90, 91, 0, 99);
        a.library("up 9 p<5");
        a.pass(1);
        int[] up = {98, 99, 99, 9, 99};
        for (int p = 0; p < 5; p++) {
            is(up[p], a.of(p, 2));
        }
        Atlas b = Atlas.ones(10, 9, 8, 99, 0);
        b.library("down 9 p<5");
        b.pass(1);
        int[] down = {1, 0, 0, 90, 0};
        for (int p = 0; p < 5; p++) {
            is(down[p], b.of(p, 2));
        }
    }

    @Of(part = "Terms 1", says = "(0 at least, 99 at most). Then")
    static void stepKeepsWithinTheHallAheadOfTheLeaves() {
        // At 99, not at 139: GAP is 9, not 49.
        Atlas a = Atlas.ones(50, 89);
        a.leaf(40);
        a.hold(0, 0, 1);
        a.library("up 50 p=1;bear 9");
        a.pass(1);
        is(1, a.told(4));
        is(51, a.of(0, 2));
        is(98, a.of(1, 2));
        Atlas b = Atlas.ones(49, 10);
        b.leaf(40);
        b.hold(0, 0, 1);
        b.library("down 50 p=1;bear 9");
        b.pass(1);
        is(48, b.of(0, 2));
        is(1, b.of(1, 2));
    }

    @Of(part = "Terms 1", says = "one behind the other by number, each LEAF that is TAUT then")
    static void stepLeavesGoByNumber() {
        // LEAF 0 draws its HOLDERS so that LEAF 1 isn't TAUT any more; the other way round LEAF 0 would be let go.
        Atlas a = Atlas.ones(0, 20, 40);
        a.leaf(14);
        a.leaf(14);
        a.hold(0, 0, 1);
        a.hold(1, 1, 2);
        a.pass(1);
        is(1, a.told(4));
        is(19, a.of(1, 2));
        is(40, a.of(2, 2));
        Atlas b = Atlas.ones(0, 20, 40);
        b.leaf(14);
        b.leaf(14);
        b.hold(1, 0, 1);
        b.hold(0, 1, 2);
        b.pass(1);
        is(1, b.told(4));
        is(21, b.of(1, 2));
        is(0, b.of(0, 2));
    }

    @Of(part = "Terms 1", says = "each LEAF that is TAUT then")
    static void stepLeavesThatAreNotTautStay() {
        Atlas a = Atlas.ones(0, 10, 50, 50);
        a.leaf(10);
        a.leaf(40);
        a.leaf(1);
        a.hold(0, 0, 1);
        a.hold(1, 2, 3);
        a.library("bear 0");
        a.pass(1);
        is(3, a.told(4));
        is(0, a.of(0, 2));
        is(10, a.of(1, 2));
        is(50, a.of(2, 2));
        is(0, a.told(2));
    }

    private static Atlas gapAndBear(int gap, int bear) {
        Atlas a = Atlas.ones(0, gap + 1);
        a.leaf(1);
        a.hold(0, 0, 1);
        if (bear >= 0) {
            a.library("bear " + bear);
        }
        a.pass(1);
        return a;
    }

    @Of(part = "Terms 1", says = "if GAP is more than BEAR, it is let go")
    static void stepLetsGoAboveBear() {
        int[][] gapsAndBears = {{6, -1}, {9, 9}, {1, 1}, {98, 98}, {98, 99}, {1, 99}};
        for (int[] g : gapsAndBears) {
            Atlas a = gapAndBear(g[0], g[1]);
            is(1, a.told(4));
            is(0, a.told(2));
            is(1, a.of(0, 2));
            is(g[0], a.of(1, 2));
        }
        int[][] more = {{7, -1}, {10, 9}, {2, 1}, {1, 0}, {98, 97}, {98, 0}};
        for (int[] g : more) {
            Atlas a = gapAndBear(g[0], g[1]);
            is(0, a.told(4));
            is(1, a.told(2));
            is(0, a.of(0, 2));
            is(g[0] + 1, a.of(1, 2));
        }
    }

    @Of(part = "Terms 1", says = "it has no HOLDERS, DROPS are 1 more (9999 at most)")
    static void stepLetGoCountsOnce() {
        Atlas a = Atlas.ones(0, 99);
        for (int leaf = 0; leaf < 4; leaf++) {
            a.leaf(9);
            a.hold(leaf, 0, 1);
            is(leaf, a.told(2));
            a.pass(1);
            is(leaf + 1, a.told(2));
            is(NOT_ANY, a.sheet(leaf, 1));
            is(NOT_ANY, a.sheet(leaf, 2));
            is(0, a.of(0, 3));
        }
        a.pass(5);
        is(4, a.told(2));
        for (int leaf = 0; leaf < 4; leaf++) {
            a.hold(leaf, 0, 1);
        }
        a.pass(1);
        is(8, a.told(2));
    }

    @Of(part = "Terms 1", says = "else its two HOLDERS come nearer to each other by 1, each")
    static void stepDrawsEachByOne() {
        Atlas a = Atlas.ones(0, 17, 99, 82);
        a.leaf(11);
        a.leaf(11);
        a.hold(0, 0, 1);
        a.hold(1, 2, 3);
        int[] places = {1, 16, 98, 83};
        a.pass(1);
        for (int p = 0; p < 4; p++) {
            is(places[p], a.of(p, 2));
        }
        // GAP 1 becomes -1, not 0: both come nearer.
        Atlas b = Atlas.ones(50, 48);
        b.leaf(1);
        b.hold(0, 0, 1);
        b.pass(1);
        is(49, b.of(0, 2));
        is(49, b.of(1, 2));
        is(-1, b.gap(0));
        b.pass(1);
        is(49, b.of(0, 2));
    }

    @Of(part = "Terms 1", says = "STEP is 1 more.")
    static void stepIsOneMore() {
        Atlas a = new Atlas();
        for (int step = 1; step <= 3; step++) {
            is(step, a.pass(1));
            is(step, a.told(0));
        }
        is(3, a.pass(0));
        is(63, a.pass(60));
    }
}
