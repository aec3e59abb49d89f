/** Promises 14 to 17: pass, on, meets, best. */
public final class StepsTest {
    private static final Due due = new Due("StepsTest");

    public static void main(String[] args) {
        promise14Pass();
        promise14AStepGoesInOrder();
        promise14LeavesGoOneBehindTheOther();
        promise14UpTo9999();
        promise15On();
        promise16Meets();
        promise17Change();
        promise17Spare();
        promise17SpareOfAllFour();
        promise17Refusals();
        due.end();
    }

    private static void promise14Pass() {
        AtlasEnds x = Due.ones(0, 16, 90);
        Due.library(x, "up 7 p=2;bear 6");
        x.leaf(10);
        x.hold(0, 0, 1);
        due.is("pass(-1)", x.pass(-1), -2);
        due.is("pass(61)", x.pass(61), -2);
        due.is("pass(0)", x.pass(0), 0);
        due.is("pass(1)", x.pass(1), 1);
        due.is("GAP 6: nearer by 1, the lower", x.of(0, 2), 1);
        due.is("GAP 6: nearer by 1, the upper", x.of(1, 2), 15);
        due.is("97", x.of(2, 2), 97);
        due.is("pass(2)", x.pass(2), 3);
        due.is("GAP 0 draws no more", x.gap(0), 0);
        due.is("99 at most", x.of(2, 2), 99);
        x.hold(0, 2, 1);
        due.is("pass: let go", x.pass(60), 63);
        due.is("DROPS", x.told(2), 1);
        due.is("no HOLDERS", x.told(4), 0);
        due.is("LENGTH stays", x.sheet(0, 0), 10);
        Due.library(x, "down 60 p=2");
        x.pass(1);
        due.is("39", x.of(2, 2), 39);
        x.pass(1);
        due.is("0 at least", x.of(2, 2), 0);
    }

    private static void promise14AStepGoesInOrder() {
        // Both drift by where all were: the first one's move changes nothing for the second's drift.
        AtlasEnds x = new AtlasEnds();
        x.one(0, 0, 9);
        x.one(1, 5, 9);
        x.leaf(40);
        x.hold(0, 0, 1);
        Due.library(x, "up 1 x=0&s=0");
        x.pass(1);
        due.is("drifts to 10", x.of(0, 2), 10);
        due.is("drifts by SUM and v", x.of(1, 2), 15);
        x.pass(1);
        due.is("SUM is 0 by then", x.of(0, 2), 10);
        due.is("v alone", x.of(1, 2), 20);
        // TAUT is looked at behind the drift.
        AtlasEnds y = Due.ones(0, 10);
        Due.library(y, "up 1 p=1");
        y.leaf(10);
        due.is("not TAUT ahead", y.hold(0, 0, 1), 0);
        y.pass(1);
        due.is("drawn, the first", y.of(0, 2), 1);
        due.is("drawn, the second", y.of(1, 2), 10);
    }

    private static void promise14LeavesGoOneBehindTheOther() {
        // LEAF 0 draws 1 down to 19, so that LEAF 1 has a GAP of 7 when its turn comes.
        AtlasEnds x = Due.ones(0, 20, 40);
        x.leaf(14);
        x.leaf(14);
        x.hold(0, 0, 1);
        x.hold(1, 1, 2);
        x.pass(1);
        due.is("LEAF 1 is let go", x.told(4), 1);
        due.is("DROPS", x.told(2), 1);
        due.is("0 came nearer", x.of(0, 2), 1);
        due.is("1 came nearer", x.of(1, 2), 19);
        due.is("2 stays", x.of(2, 2), 40);
        // LEAF 0 makes LEAF 1 slack ahead of its turn.
        AtlasEnds y = Due.ones(0, 3);
        y.leaf(1);
        y.leaf(2);
        y.hold(0, 0, 1);
        y.hold(1, 0, 1);
        due.is("both TAUT ahead", y.told(3), 3);
        y.pass(1);
        due.is("drawn once, 0", y.of(0, 2), 1);
        due.is("drawn once, 1", y.of(1, 2), 2);
        // LEAF 0 makes LEAF 1 TAUT ahead of its turn.
        AtlasEnds z = Due.ones(0, 20, 30);
        z.leaf(18);
        z.leaf(10);
        z.hold(0, 0, 1);
        z.hold(1, 1, 2);
        due.is("one TAUT ahead", z.told(3), 1);
        z.pass(1);
        due.is("1 is drawn down and up again", z.of(1, 2), 20);
        due.is("2 is drawn down", z.of(2, 2), 29);
    }

    private static void promise14UpTo9999() {
        AtlasEnds x = new AtlasEnds();
        x.one(3, 0, 50);
        for (int i = 1; i <= 166; i++) {
            due.is("pass(60), " + i, x.pass(60), i * 60);
        }
        due.is("pass(40)", x.pass(40), -3);
        due.is("pass: BAD ahead of STATE", x.pass(61), -2);
        due.is("pass(39)", x.pass(39), 9999);
        due.is("pass(1)", x.pass(1), -3);
        due.is("pass(0)", x.pass(0), 9999);
        // 9999 modulo 8 is 7, 10000 modulo 8 is 0, 10004 modulo 8 is 4.
        Due.library(x, "up 1 p=0");
        due.is("asked beyond 9999", x.on(1, 10), 49);
        due.is("asked beyond 9999, on", x.on(5, 10), 53);
        due.is("asked beyond 9999, mean", x.mean(6, 0), 52);
    }

    private static void promise15On() {
        AtlasEnds x = Due.ones(0, 16, 60);
        x.leaf(10);
        x.leaf(20);
        x.hold(0, 0, 1);
        x.hold(1, 0, 2);
        due.is("on(0, 0)", x.on(0, 0), 0);
        due.is("on(0, 1)", x.on(0, 1), 3);
        due.is("on(0, 2)", x.on(0, 2), 3);
        due.is("on(0, 12)", x.on(0, 12), 60);
        due.is("on(1, 0)", x.on(1, 0), 1);
        due.is("on(1, 1)", x.on(1, 1), 1);
        due.is("on(1, 2)", x.on(1, 2), 1);
        due.is("on(1, 10)", x.on(1, 10), 1);
        due.is("on(60, 11)", x.on(60, 11), 13);
        due.is("on(60, 1)", x.on(60, 1), 0);
        due.is("on: what -1", x.on(0, -1), -1);
        due.is("on: what 3", x.on(0, 3), -1);
        due.is("on: what 9", x.on(0, 9), -1);
        due.is("on: what 13", x.on(0, 13), -1);
        due.is("on: what least", x.on(0, Integer.MIN_VALUE), -1);
        due.is("on: NONE ahead of BAD", x.on(61, 13), -1);
        due.is("on(61, 0)", x.on(61, 0), -2);
        due.is("on(-1, 12)", x.on(-1, 12), -2);
        due.is("on: STEP is as it was", x.told(0), 0);
        due.is("on: DROPS are as they were", x.told(2), 0);
        due.is("on: PLACE is as it was", x.of(1, 2), 16);
    }

    private static void promise16Meets() {
        AtlasEnds x = Due.ones(0, 60, 61, 0);
        Due.library(x, "up 1 p=0");
        due.is("meets: now", x.meets(0, 3), 0);
        due.is("meets: 60", x.meets(0, 1), 60);
        due.is("meets: the other way round", x.meets(1, 0), 60);
        due.is("meets: not by 60", x.meets(0, 2), -5);
        due.is("meets: never", x.meets(1, 2), -5);
        due.is("meets: one is both", x.meets(2, 2), -2);
        due.is("meets: NONE ahead of BAD", x.meets(4, 4), -1);
        due.is("meets(-1, 0)", x.meets(-1, 0), -1);
        due.is("meets(0, 4)", x.meets(0, 4), -1);
        due.is("meets: as it was", x.of(0, 2), 0);
    }

    private static void promise17Change() {
        AtlasEnds x = Due.ones(0, 50, 5);
        x.leaf(10);
        x.hold(0, 0, 1);
        due.is("CHANGE: the only one", x.best(1, 0), 12);
        x.walk(2, 90);
        due.is("CHANGE: none", x.best(20, 0), -5);
        x.walk(1, 5);
        due.is("CHANGE: nothing is let go as it is", x.best(20, 0), -5);

        AtlasEnds y = Due.ones(0, 50, 48, 5);
        y.leaf(10);
        y.hold(0, 0, 1);
        due.is("CHANGE: the first of several", y.best(1, 0), 2);
        due.is("CHANGE: PLACES are as they were", y.of(0, 2), 0);

        AtlasEnds z = Due.ones(0, 60, 30, 90);
        z.leaf(25);
        z.leaf(25);
        z.hold(0, 0, 1);
        z.hold(1, 2, 3);
        due.is("CHANGE: the least, not the first less", z.best(1, 0), 3);
    }

    private static void promise17Spare() {
        AtlasEnds x = Due.ones(0, 20, 40, 99);
        x.leaf(14);
        x.leaf(14);
        x.leaf(40);
        x.hold(0, 0, 1);
        due.is("SPARE: nothing is let go", x.best(20, 1), -5);
        x.hold(1, 1, 2);
        due.is("SPARE: only both", x.best(1, 1), 3);
        x.hold(2, 0, 3);
        due.is("SPARE: one is fewer than two", x.best(1, 1), 4);
        x.pass(1);
        due.is("SPARE: two are gone", x.told(2), 2);
        due.is("SPARE: more than now", x.best(20, 1), -5);
        x.hold(1, 0, 3);
        x.hold(2, 0, 3);
        due.is("SPARE: the least as bits", x.best(1, 1), 2);
        due.is("SPARE: held is as it was", x.told(4), 7);
        due.is("SPARE: DROPS are as they were", x.told(2), 2);
    }

    private static void promise17SpareOfAllFour() {
        // Three draw 0 away from 2 by 1 each: then, and only then, LEAF 3 has a GAP of 7.
        AtlasEnds x = Due.ones(50, 10, 90);
        for (int leaf = 0; leaf < 3; leaf++) {
            x.leaf(35);
            x.hold(leaf, 0, 1);
        }
        x.leaf(36);
        x.hold(3, 0, 2);
        due.is("SPARE: all four", x.best(1, 1), 15);
        x.free(1);
        due.is("SPARE: three are too few", x.best(1, 1), -5);
    }

    private static void promise17Refusals() {
        AtlasEnds x = Due.ones(0, 20);
        due.is("best: what -1", x.best(1, -1), -1);
        due.is("best: what 2", x.best(1, 2), -1);
        due.is("best: NONE ahead of BAD", x.best(0, 2), -1);
        due.is("best: n 0", x.best(0, 0), -2);
        due.is("best: n 21", x.best(21, 1), -2);
        due.is("best: n least", x.best(Integer.MIN_VALUE, 1), -2);
        due.is("best: no LEAVES, CHANGE", x.best(1, 0), -5);
        due.is("best: no LEAVES, SPARE", x.best(20, 1), -5);
    }
}
