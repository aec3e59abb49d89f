/** Promises 1 to 10: a new object, people, leaves. */
public final class PeopleLeavesTest {
    private static final int LOW = Integer.MIN_VALUE;
    private static final int HIGH = Integer.MAX_VALUE;
    private static final Due due = new Due("PeopleLeavesTest");

    public static void main(String[] args) {
        constants();
        promise1NewObject();
        promise2One();
        promise2OneAfterUndoHasAnEmptyRow();
        promise3Of();
        promise3DriftUpward();
        promise3DriftDownward();
        promise4Leaf();
        promise5SheetPlain();
        promise5Lasts();
        promise5LastsUpToSixty();
        promise5Partner();
        promise5Lengths();
        promise6Gap();
        promise7Hold();
        promise8Free();
        promise9Walk();
        promise10Row();
        due.end();
    }

    private static void constants() {
        due.is("NONE", AtlasEnds.NONE, -1);
        due.is("BAD", AtlasEnds.BAD, -2);
        due.is("STATE", AtlasEnds.STATE, -3);
        due.is("FULL", AtlasEnds.FULL, -4);
        due.is("NO", AtlasEnds.NO, Long.MIN_VALUE);
    }

    private static void promise1NewObject() {
        AtlasEnds x = new AtlasEnds();
        for (int what = 0; what <= 7; what++) {
            due.is("new: count(" + what + ")", x.count(what), 0);
        }
        due.is("new: of(0, 0)", x.of(0, 0), -10001);
        due.is("new: sheet(0, 0)", x.sheet(0, 0), -1);
        due.is("new: told(0)", x.told(0), 0);
        due.is("new: told(1)", x.told(1), 6);
        due.is("new: told(2)", x.told(2), 0);
        due.is("new: told(3)", x.told(3), 0);
        due.is("new: told(4)", x.told(4), 0);
        due.is("new: undo()", x.undo(), -3);
        for (int tape = 0; tape < 6; tape++) {
            due.is("new: read(" + tape + ", 0)", x.read(tape, 0), AtlasEnds.NO);
            due.is("new: item(" + tape + ", 0, 1)", x.item(tape, 0, 1), -11);
        }
    }

    private static void promise2One() {
        AtlasEnds x = new AtlasEnds();
        due.is("one: kind -1", x.one(-1, 10, 100), -1);
        due.is("one: kind 7", x.one(7, -1, -1), -1);
        due.is("one: kind least", x.one(LOW, 0, 0), -1);
        due.is("one: v -1", x.one(0, -1, 0), -2);
        due.is("one: v 10", x.one(6, 10, 0), -2);
        due.is("one: spot -1", x.one(0, 0, -1), -2);
        due.is("one: spot 100", x.one(0, 0, 100), -2);
        due.is("one: spot most", x.one(0, 0, HIGH), -2);
        due.is("one: none came", x.count(0), 0);
        due.is("one(0, 0, 0)", x.one(0, 0, 0), 0);
        due.is("one(6, 9, 99)", x.one(6, 9, 99), 1);
        for (int kind = 1; kind <= 4; kind++) {
            due.is("one(" + kind + ", 5, 50)", x.one(kind, 5, 50), kind + 1);
        }
        due.is("one: six are there", x.one(5, 5, 50), -4);
        due.is("one: NONE ahead of FULL", x.one(7, 5, 50), -1);
        due.is("one: BAD ahead of FULL", x.one(5, 5, 100), -2);
        due.is("one: still six", x.count(0), 6);
    }

    private static void promise2OneAfterUndoHasAnEmptyRow() {
        AtlasEnds x = new AtlasEnds();
        x.image();
        x.one(6, 1, 1);
        for (int part = 0; part < 4; part++) {
            x.row(0, part, 8);
        }
        x.undo();
        due.is("one: again the first", x.one(6, 1, 1), 0);
        for (int part = 0; part < 4; part++) {
            due.is("one: its ROW is 0, " + part, x.row(0, part, 3), 0);
        }
    }

    private static void promise3Of() {
        AtlasEnds x = new AtlasEnds();
        x.one(4, 7, 33);
        x.one(0, 0, 99);
        x.leaf(40);
        x.leaf(40);
        due.is("of: KIND", x.of(0, 0), 4);
        due.is("of: v", x.of(0, 1), 7);
        due.is("of: PLACE", x.of(0, 2), 33);
        due.is("of: holds none", x.of(0, 3), 0);
        x.hold(0, 0, 1);
        x.hold(1, 1, 0);
        due.is("of: holds two", x.of(0, 3), 2);
        due.is("of: the other too", x.of(1, 3), 2);
        x.free(0);
        due.is("of: holds one", x.of(0, 3), 1);
        due.is("of: DRIFT without a LIBRARY", x.of(1, 4), 0);
        due.is("of: what -1", x.of(0, -1), -10001);
        due.is("of: what 5", x.of(0, 5), -10001);
        due.is("of: person -1", x.of(-1, 0), -10001);
        due.is("of: person 2", x.of(2, 0), -10001);
        due.is("of: person most", x.of(HIGH, 0), -10001);
    }

    /** One of each KIND but TOLD, v 3, spread so that nothing is let go. */
    private static AtlasEnds kinds() {
        AtlasEnds x = new AtlasEnds();
        for (int kind = 0; kind <= 5; kind++) {
            x.one(kind, 3, 50);
        }
        x.leaf(40);
        x.leaf(40);
        return x;
    }

    private static void drifts(AtlasEnds x, String when, int... want) {
        for (int p = 0; p < want.length; p++) {
            due.is(when + ": of(" + p + ", 4)", x.of(p, 4), want[p]);
        }
    }

    private static void promise3DriftUpward() {
        AtlasEnds x = kinds();
        due.is("SUM 7", Due.library(x, "up 9 p<9;down 2 p<9"), 0);
        drifts(x, "SUM 7, STEP 0", 7, 7, 3, 7, 0, 3);
        x.hold(0, 1, 5);
        x.hold(1, 4, 5);
        drifts(x, "SUM 7, STEP 0, held", 7, 10, 3, 7, 0, 5);
        x.pass(1);
        drifts(x, "SUM 7, STEP 1, held", 7, 10, 3, 7, 10, 5);
        x.free(1);
        drifts(x, "SUM 7, STEP 1, one let go", 7, 10, 3, 7, 7, 4);
        x.pass(3);
        drifts(x, "SUM 7, STEP 4", 7, 10, 3, -7, 0, 4);
        x.pass(3);
        drifts(x, "SUM 7, STEP 7", 7, 10, 3, -7, 7, 4);
        x.pass(1);
        drifts(x, "SUM 7, STEP 8", 7, 10, 3, 7, 0, 4);
    }

    private static void promise3DriftDownward() {
        AtlasEnds x = kinds();
        Due.library(x, "down 7 p<9");
        drifts(x, "SUM -7, STEP 0", -7, -7, -3, -7, 0, -3);
        x.hold(0, 1, 5);
        drifts(x, "SUM -7, STEP 0, held", -7, -4, -3, -7, 0, -2);
        x.pass(5);
        drifts(x, "SUM -7, STEP 5", -7, -4, -3, 7, -7, -2);

        AtlasEnds y = new AtlasEnds();
        y.one(6, 3, 50);
        Due.library(y, "down 7 p<9");
        due.is("TOLD, no ROW", y.of(0, 4), -11);
        y.row(0, 0, 9);
        y.row(0, 2, 4);
        y.row(0, 3, 5);
        int[] want = {-2, -11, -7, -6, 12, 3, 7, 8, -2};
        for (int step = 0; step < want.length; step++) {
            due.is("TOLD, STEP " + step, y.of(0, 4), want[step]);
            y.pass(1);
        }
    }

    private static void promise4Leaf() {
        AtlasEnds x = new AtlasEnds();
        due.is("leaf(0)", x.leaf(0), -2);
        due.is("leaf(41)", x.leaf(41), -2);
        due.is("leaf(least)", x.leaf(LOW), -2);
        due.is("leaf(1)", x.leaf(1), 0);
        due.is("leaf(40)", x.leaf(40), 1);
        due.is("leaf(7)", x.leaf(7), 2);
        due.is("leaf(8)", x.leaf(8), 3);
        due.is("leaf: four are there", x.leaf(9), -4);
        due.is("leaf: BAD ahead of FULL", x.leaf(41), -2);
        due.is("leaf: still four", x.count(1), 4);
        due.is("leaf: held by none", x.told(4), 0);
    }

    private static void promise5SheetPlain() {
        AtlasEnds x = Due.ones(10, 20, 30);
        x.leaf(15);
        x.leaf(40);
        due.is("sheet: LENGTH", x.sheet(0, 0), 15);
        for (int what = 1; what <= 4; what++) {
            due.is("sheet: not held, " + what, x.sheet(0, what), -5);
        }
        x.hold(0, 2, 1);
        due.is("sheet: first", x.sheet(0, 1), 2);
        due.is("sheet: second", x.sheet(0, 2), 1);
        due.is("sheet: the other isn't held", x.sheet(1, 1), -5);
        due.is("sheet: what -1", x.sheet(0, -1), -1);
        due.is("sheet: what 7", x.sheet(0, 7), -1);
        due.is("sheet: leaf -1", x.sheet(-1, 0), -1);
        due.is("sheet: leaf 2", x.sheet(2, 0), -1);
        due.is("sheet: leaf most", x.sheet(HIGH, 0), -1);
    }

    private static void promise5Lasts() {
        AtlasEnds x = Due.ones(0, 17);
        x.leaf(10);
        x.hold(0, 0, 1);
        due.is("LASTS: GAP 7, BEAR 6", x.sheet(0, 3), 1);
        x.walk(1, 16);
        due.is("LASTS: GAP 6, BEAR 6", x.sheet(0, 3), -5);
        due.is("LASTS: nothing moved", x.of(1, 2), 16);

        // 3 farther and 2 nearer in each STEP: GAPS 3, 4, 5, 6 ahead of drawing.
        AtlasEnds y = Due.ones(0, 10);
        Due.library(y, "up 3 p=1;bear 5");
        y.leaf(10);
        y.hold(0, 1, 0);
        due.is("LASTS: the fourth is too much", y.sheet(0, 3), 4);
        due.is("LASTS: DROPS as they are", y.told(2), 0);
    }

    private static void promise5LastsUpToSixty() {
        // One farther in STEPS 5 to 9 of each ten: the 30th time goes in the 60th STEP.
        AtlasEnds x = Due.ones(0, 1);
        Due.library(x, "up 1 p=1&s>4;bear 0");
        x.leaf(30);
        x.leaf(31);
        x.hold(0, 0, 1);
        x.hold(1, 0, 1);
        due.is("LASTS: 60", x.sheet(0, 3), 60);
        due.is("LASTS: beyond 60", x.sheet(1, 3), -5);
        x.leaf(29);
        x.hold(2, 0, 1);
        due.is("LASTS: 59", x.sheet(2, 3), 59);
        due.is("PARTNER: there is no other", x.sheet(2, 4), -5);
        x.one(0, 0, 0);
        due.is("PARTNER: for good is greater than 59", x.sheet(2, 4), 2);
        due.is("PARTNER: for good is greater than 60", x.sheet(0, 4), 2);
        due.is("PARTNER: nothing is greater than -5", x.sheet(1, 4), -5);
    }

    private static void promise5Partner() {
        AtlasEnds x = Due.ones(0, 50, 5, 8);
        x.leaf(10);
        x.hold(0, 0, 1);
        due.is("PARTNER: the first of two that hold for good", x.sheet(0, 4), 2);
        x.hold(0, 1, 0);
        due.is("PARTNER: the second is changed, not the first", x.sheet(0, 4), -5);
        x.hold(0, 0, 3);
        due.is("PARTNER: it holds for good as it is", x.sheet(0, 4), -5);

        AtlasEnds y = Due.ones(0, 8, 6, 6, 9);
        Due.library(y, "up 1 p>0;bear 0");
        y.leaf(10);
        y.hold(0, 0, 1);
        due.is("PARTNER: LASTS 3 as it is", y.sheet(0, 3), 3);
        due.is("PARTNER: the first with 5", y.sheet(0, 4), 2);
        y.hold(0, 0, 2);
        due.is("PARTNER: as great isn't greater", y.sheet(0, 4), -5);
        y.hold(0, 0, 4);
        due.is("PARTNER: the greatest, not the first greater", y.sheet(0, 4), 2);
        due.is("PARTNER: who holds is as it was", y.sheet(0, 2), 4);
    }

    private static void promise5Lengths() {
        AtlasEnds x = Due.ones(0, 20);
        x.leaf(10);
        due.is("LENGTHS: nothing SEEN", x.sheet(0, 5), 40);
        due.is("LENGTHS: nothing SEEN, least", x.sheet(0, 6), 1);
        x.hold(0, 0, 1);
        x.see(0, 0, true);
        due.is("LENGTHS: TAUT now", x.sheet(0, 5), 19);
        due.is("LENGTHS: TAUT now, least", x.sheet(0, 6), 1);
        x.see(0, 1, true);
        due.is("LENGTHS: TAUT behind a STEP", x.sheet(0, 5), 4);
        due.is("LENGTHS: TAUT behind a STEP, least", x.sheet(0, 6), 14);
        x.see(0, 1, false);
        due.is("LENGTHS: none", x.sheet(0, 5), 0);
        due.is("LENGTHS: none, least", x.sheet(0, 6), -5);
        x.see(-1, 0, false);
        x.see(0, 0, false);
        due.is("LENGTHS: slack now", x.sheet(0, 5), 21);
        due.is("LENGTHS: slack now, least", x.sheet(0, 6), 20);
        due.is("LENGTHS: LENGTH is as it was", x.sheet(0, 0), 10);
    }

    private static void promise6Gap() {
        AtlasEnds x = Due.ones(40, 10);
        due.is("gap: no LEAF", x.gap(0), -10001);
        x.leaf(12);
        due.is("gap: not held", x.gap(0), -10003);
        x.hold(0, 0, 1);
        due.is("gap(0)", x.gap(0), 18);
        x.hold(0, 1, 0);
        due.is("gap: the other way round", x.gap(0), 18);
        x.walk(0, 10);
        due.is("gap: below 0", x.gap(0), -12);
        due.is("gap(-1)", x.gap(-1), -10001);
        due.is("gap(least)", x.gap(LOW), -10001);
    }

    private static void promise7Hold() {
        AtlasEnds x = Due.ones(0, 10, 11);
        x.leaf(10);
        due.is("hold: GAP 0", x.hold(0, 0, 1), 0);
        due.is("hold: GAP 1", x.hold(0, 0, 2), 1);
        due.is("hold: the other holders are gone", x.of(1, 3), 0);
        due.is("hold: GAP 1 the other way", x.hold(0, 2, 0), 1);
        due.is("hold: leaf 1", x.hold(1, 0, 1), -1);
        due.is("hold: leaf -1", x.hold(-1, 0, 1), -1);
        due.is("hold: person 3", x.hold(0, 3, 1), -1);
        due.is("hold: other -1", x.hold(0, 0, -1), -1);
        due.is("hold: NONE ahead of BAD", x.hold(0, 3, 3), -1);
        due.is("hold: leaf ahead of BAD", x.hold(1, 0, 0), -1);
        due.is("hold: one is both", x.hold(0, 1, 1), -2);
        due.is("hold: as it was", x.sheet(0, 1) * 10 + x.sheet(0, 2), 20);
    }

    private static void promise8Free() {
        AtlasEnds x = Due.ones(0, 10);
        due.is("free: no LEAF", x.free(0), -1);
        x.leaf(10);
        due.is("free: not held", x.free(0), -3);
        x.hold(0, 0, 1);
        due.is("free(0)", x.free(0), 1);
        due.is("free: again", x.free(0), -3);
        due.is("free: DROPS", x.told(2), 0);
        due.is("free: held by none", x.sheet(0, 1), -5);
        due.is("free(-1)", x.free(-1), -1);
        due.is("free(1)", x.free(1), -1);
    }

    private static void promise9Walk() {
        AtlasEnds x = Due.ones(7);
        due.is("walk(0, 99)", x.walk(0, 99), 7);
        due.is("walk(0, 0)", x.walk(0, 0), 99);
        due.is("walk: PLACE", x.of(0, 2), 0);
        due.is("walk(0, 100)", x.walk(0, 100), -2);
        due.is("walk(0, -1)", x.walk(0, -1), -2);
        due.is("walk(1, 100)", x.walk(1, 100), -1);
        due.is("walk(-1, 5)", x.walk(-1, 5), -1);
        due.is("walk: PLACE as it was", x.of(0, 2), 0);
    }

    private static void promise10Row() {
        AtlasEnds x = new AtlasEnds();
        x.one(6, 0, 0);
        x.one(3, 0, 0);
        due.is("row(0, 0, 9)", x.row(0, 0, 9), 0);
        due.is("row(0, 3, 4)", x.row(0, 3, 4), 0);
        due.is("row(0, 0, 0)", x.row(0, 0, 0), 9);
        due.is("row(0, 3, 1)", x.row(0, 3, 1), 4);
        due.is("row: person 2", x.row(2, 0, 0), -1);
        due.is("row: person -1", x.row(-1, 0, 10), -1);
        due.is("row: part 4", x.row(0, 4, 10), -1);
        due.is("row: part -1", x.row(1, -1, 0), -1);
        due.is("row: n 10", x.row(0, 0, 10), -2);
        due.is("row: n -1", x.row(0, 0, -1), -2);
        due.is("row: BAD ahead of STATE", x.row(1, 0, 10), -2);
        due.is("row: another KIND", x.row(1, 0, 5), -3);
        due.is("row: as it was", x.row(0, 0, 2), 0);
    }
}
