/** Promises 29 to 32: act, trace, taken, count. */
public final class ActsTest {
    private static final int BOWS = 0, TUGS = 1, TELLS = 2;
    private static final Due due = new Due("ActsTest");

    public static void main(String[] args) {
        promises29And30Acts();
        promises29And30ActsOfATold();
        promise29Wraps();
        promise29Refusals();
        promise30Trace();
        promise31Taken();
        promise32Count();
        due.end();
    }

    private static void act(AtlasEnds x, int person, int act, int arg, int want, int... bodies) {
        String call = "act(" + person + ", " + act + ", " + arg + ")";
        due.is(call, x.act(person, act, arg), want);
        due.is(call + ": how many bodies", x.count(7), bodies.length);
        for (int i = 0; i < bodies.length; i++) {
            due.is(call + ": trace(" + i + ")", x.trace(i), bodies[i]);
        }
        due.is(call + ": trace behind the last", x.trace(bodies.length), -1);
    }

    private static void promises29And30Acts() {
        AtlasEnds x = new AtlasEnds();
        for (int kind = 0; kind <= 5; kind++) {
            x.one(kind, kind + 1, 10);
        }
        act(x, 0, BOWS, 5, 5, 10);
        act(x, 0, TUGS, 5, 4, 11, 10);
        act(x, 0, TELLS, 5, 8, 12, 11, 10);
        act(x, 1, BOWS, 5, 6, 10);
        act(x, 1, TUGS, 5, 2, 20, 11, 10);
        act(x, 1, TELLS, 5, 4, 12, 20, 11, 10);
        act(x, 2, BOWS, 5, 17, 30, 10);
        act(x, 2, TUGS, 5, 14, 11, 30, 10);
        act(x, 2, TELLS, 5, 28, 12, 11, 30, 10);
        act(x, 3, BOWS, 5, 8, 10);
        act(x, 3, TUGS, 5, 4, 11, 10);
        act(x, 3, TELLS, 5, 8, 40, 12, 11, 10, 11, 10);
        act(x, 4, BOWS, 5, -9, 50, 10);
        act(x, 4, TUGS, 5, -9, 51, 20, 11, 50, 10);
        act(x, 4, TELLS, 5, -18, 12, 51, 20, 11, 50, 10);
        act(x, 5, BOWS, 5, 20, 30, 10);
        act(x, 5, TUGS, 5, 14, 11, 30, 10);
        act(x, 5, TELLS, 5, -2, 60, 12, 11, 30, 10);
    }

    private static void promises29And30ActsOfATold() {
        AtlasEnds x = new AtlasEnds();
        x.one(6, 7, 10);
        act(x, 0, BOWS, 5, 2, 71, 10);
        act(x, 0, TUGS, 5, -3, 70, 11, 71, 10, 10);
        act(x, 0, TELLS, 5, -5, 40, 12, 70, 11, 71, 10, 10, 70, 11, 71, 10, 10);
    }

    private static void promise29Wraps() {
        AtlasEnds x = new AtlasEnds();
        x.one(0, 9, 0);
        x.one(2, 9, 0);
        due.is("tugs wraps", x.act(0, TUGS, Integer.MIN_VALUE), Integer.MIN_VALUE - 9);
        due.is("tells wraps", x.act(0, TELLS, 0x40000009), Integer.MIN_VALUE);
        due.is("bows wraps", x.act(1, BOWS, Integer.MAX_VALUE), Integer.MAX_VALUE * 3 + 1);
        AtlasEnds y = new AtlasEnds();
        y.one(4, 0, 0);
        due.is("- of the least", y.act(0, BOWS, Integer.MIN_VALUE), Integer.MIN_VALUE);
    }

    private static void promise29Refusals() {
        AtlasEnds x = new AtlasEnds();
        due.is("act: nobody", x.act(0, 0, 7), 0);
        x.one(0, 1, 1);
        int[][] wrong = {{1, 0}, {-1, 0}, {0, 3}, {0, -1}, {Integer.MAX_VALUE, 0}, {0, Integer.MIN_VALUE}};
        for (int[] w : wrong) {
            due.is("act: as it should", x.act(0, 2, 3), 4);
            due.is("act: 3 bodies", x.count(7), 3);
            due.is("act(" + w[0] + ", " + w[1] + ", 5)", x.act(w[0], w[1], 5), 0);
            due.is("no TRACE", x.trace(0), -1);
            due.is("no bodies", x.count(7), 0);
        }
    }

    private static void promise30Trace() {
        AtlasEnds x = Due.ones(0);
        due.is("trace: no act", x.trace(0), -1);
        x.act(0, 1, 0);
        due.is("trace(-1)", x.trace(-1), -1);
        due.is("trace(0)", x.trace(0), 11);
        due.is("trace(1)", x.trace(1), 10);
        due.is("trace(2)", x.trace(2), -1);
        due.is("trace(20)", x.trace(20), -1);
        due.is("trace(most)", x.trace(Integer.MAX_VALUE), -1);
        x.act(0, 0, 0);
        due.is("trace: of the latest alone", x.trace(1), -1);
    }

    private static void promise31Taken() {
        boolean[][] isUnder = {
            {true, false, false, false, false, false, false},
            {true, true, false, false, false, false, false},
            {true, false, true, false, false, false, false},
            {true, false, false, true, false, false, false},
            {true, true, false, false, true, false, false},
            {true, false, true, false, false, true, false},
            {true, false, false, true, false, false, true}};
        for (int kind = 0; kind <= 6; kind++) {
            AtlasEnds x = new AtlasEnds();
            due.is("taken: nobody", x.taken(0, kind), -11);
            x.one(kind, 0, 0);
            for (int k = 0; k <= 6; k++) {
                due.is(kind + " taken for " + k, x.taken(0, k), isUnder[kind][k] ? kind : -12);
            }
            due.is("taken: k -1", x.taken(0, -1), -2);
            due.is("taken: k 7", x.taken(0, 7), -2);
            due.is("taken: BAD ahead of NOTHING", x.taken(9, 7), -2);
            due.is("taken: person 1", x.taken(1, 0), -11);
            due.is("taken: person -1", x.taken(-1, 0), -11);
        }
    }

    private static void promise32Count() {
        AtlasEnds x = Due.ones(0, 1, 2);
        x.leaf(9);
        x.leaf(9);
        Due.library(x, "bear 1");
        x.see(0, 0, false);
        x.see(1, 0, false);
        x.plan(0, 0);
        x.book(0, 0);
        x.book(0, 0);
        x.book(0, 0);
        Due.feed(x, "down");
        x.act(0, 2, 0);
        int[] want = {3, 2, 1, 2, 1, 3, 4, 3};
        for (int what = 0; what < want.length; what++) {
            due.is("count(" + what + ")", x.count(what), want[what]);
        }
        due.is("count(-1)", x.count(-1), -2);
        due.is("count(8)", x.count(8), -2);
    }
}
