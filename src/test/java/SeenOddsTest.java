/** Promises 18 to 21: see, can, odds, mean. */
public final class SeenOddsTest {
    private static final Due due = new Due("SeenOddsTest");

    public static void main(String[] args) {
        promise18See();
        promise18SeenIsFromWhenItIsAsked();
        promise18SeenOfTwoLeaves();
        promise19Can();
        promise20Odds();
        promise20OddsRefusals();
        promise21Mean();
        due.end();
    }

    private static void promise18See() {
        AtlasEnds x = Due.ones(0);
        due.is("see: no LEAF", x.see(0, 0, true), -1);
        due.is("see(-1): nothing is SEEN", x.see(-1, 99, true), 0);
        x.leaf(10);
        due.is("see(-2)", x.see(-2, 0, true), -1);
        due.is("see(1)", x.see(1, 13, true), -1);
        due.is("see: n -1", x.see(0, -1, true), -2);
        due.is("see: n 13", x.see(0, 13, true), -2);
        due.is("see: n 0", x.see(0, 0, false), 1);
        due.is("see: n 12", x.see(0, 12, false), 2);
        due.is("see: again", x.see(0, 12, false), 3);
        due.is("see: 4", x.see(0, 1, false), 4);
        due.is("see: 5", x.see(0, 2, false), 5);
        due.is("see: five are there", x.see(0, 2, false), -4);
        due.is("see: NONE ahead of FULL", x.see(1, 2, false), -1);
        due.is("see: BAD ahead of FULL", x.see(0, 13, false), -2);
        due.is("see: still five", x.count(3), 5);
        due.is("see: not held is not TAUT", x.sheet(0, 5), 40);
        due.is("see(-1)", x.see(-1, 0, false), 0);
        due.is("see: none", x.count(3), 0);
        due.is("see: the first again", x.see(0, 0, true), 1);
        due.is("see: not held is never TAUT", x.sheet(0, 6), -5);
    }

    private static void promise18SeenIsFromWhenItIsAsked() {
        AtlasEnds x = Due.ones(0, 20);
        x.leaf(18);
        x.hold(0, 0, 1);
        x.see(0, 1, false);
        // Taut at 2, slack at 1: the STEP draws by 2.
        due.is("LENGTHS", x.sheet(0, 5), 36);
        due.is("LENGTHS, least", x.sheet(0, 6), 1);
        x.see(0, 0, true);
        due.is("LENGTHS, both", x.sheet(0, 5), 15);
        x.pass(1);
        due.is("LENGTHS behind a STEP", x.sheet(0, 6), 1);
        due.is("LENGTHS behind a STEP, how many", x.sheet(0, 5), 13);
    }

    private static void promise18SeenOfTwoLeaves() {
        AtlasEnds x = Due.ones(0, 20);
        x.leaf(30);
        x.leaf(15);
        x.hold(0, 0, 1);
        x.hold(1, 0, 1);
        x.see(1, 0, true);
        due.is("SEEN of LEAF 1: LENGTHS of LEAF 0", x.sheet(0, 5), 40);
        due.is("SEEN of LEAF 1: LENGTHS of LEAF 1", x.sheet(1, 5), 19);
        x.see(0, 0, true);
        due.is("SEEN of both: LENGTHS of LEAF 0", x.sheet(0, 5), 19);
        due.is("SEEN of both: LENGTHS of LEAF 1", x.sheet(1, 5), 0);
    }

    private static void promise19Can() {
        // A READER drifts by v while it holds, the other stands: GAP behind a STEP is 5 + v - 10.
        AtlasEnds x = new AtlasEnds();
        x.one(0, 0, 0);
        x.one(1, 2, 5);
        x.leaf(10);
        x.hold(0, 0, 1);
        due.is("can: nothing SEEN", x.can(1, 0), 10);
        due.is("can: nothing SEEN, least", x.can(1, 1), 0);
        x.see(0, 1, true);
        // v 6, 7: drawn back to 9, 10; v 8, 9: drawn to 11, 12.
        due.is("can: TAUT behind it", x.can(1, 0), 2);
        due.is("can: TAUT behind it, least", x.can(1, 1), 8);
        due.is("can: another one's v is nothing", x.can(0, 0), 0);
        due.is("can: none", x.can(0, 1), -5);
        due.is("can: v is as it was", x.of(1, 1), 2);
        due.is("can: PLACE is as it was", x.of(1, 2), 5);
        due.is("can: person 2", x.can(2, 0), -1);
        due.is("can: person -1", x.can(-1, 0), -1);
        due.is("can: what 2", x.can(1, 2), -1);
        due.is("can: what -1", x.can(1, -1), -1);
    }

    private static void fraction(String call, long above, long below, long wantAbove, long wantBelow) {
        due.is(call + " above", above, wantAbove);
        due.is(call + " below", below, wantBelow);
    }

    private static void odds(AtlasEnds x, int leaf, int n, long above, long below) {
        fraction("odds(" + leaf + ", " + n + ")", x.odds(leaf, n, 0), x.odds(leaf, n, 1), above, below);
    }

    private static void promise20Odds() {
        AtlasEnds x = Due.ones(0, 5, 50);
        x.leaf(10);
        odds(x, 0, 0, 1, 1);
        odds(x, 0, 1, 1, 3);
        odds(x, 0, 20, 1, 3);
        x.hold(0, 0, 2);
        odds(x, 0, 20, 1, 3);
        due.is("odds: who holds is as it was", x.sheet(0, 2), 2);
        due.is("odds: DROPS are as they were", x.told(2), 0);
        x.free(0);
        x.one(0, 0, 55);
        odds(x, 0, 3, 1, 3);
        x.walk(0, 4);
        x.walk(2, 6);
        odds(x, 0, 3, 1, 2);
        x.walk(1, 99);
        x.walk(2, 30);
        odds(x, 0, 1, 0, 1);
    }

    private static void promise20OddsRefusals() {
        AtlasEnds x = Due.ones(3);
        x.leaf(10);
        due.is("odds: one alone", x.odds(0, 0, 0), AtlasEnds.NO);
        x.one(0, 0, 5);
        due.is("odds: two", x.odds(0, 0, 0), 1);
        due.is("odds: leaf 1", x.odds(1, 0, 0), AtlasEnds.NO);
        due.is("odds: leaf -1", x.odds(-1, 0, 0), AtlasEnds.NO);
        due.is("odds: n -1", x.odds(0, -1, 0), AtlasEnds.NO);
        due.is("odds: n 21", x.odds(0, 21, 0), AtlasEnds.NO);
        due.is("odds: part 2", x.odds(0, 0, 2), AtlasEnds.NO);
        due.is("odds: part -1", x.odds(0, 0, -1), AtlasEnds.NO);
    }

    private static void mean(AtlasEnds x, int n, long above, long below) {
        fraction("mean(" + n + ")", x.mean(n, 0), x.mean(n, 1), above, below);
    }

    private static void promise21Mean() {
        AtlasEnds x = new AtlasEnds();
        due.is("mean: nobody", x.mean(0, 0), AtlasEnds.NO);
        due.is("mean: nobody, below", x.mean(0, 1), AtlasEnds.NO);
        x.one(0, 0, 0);
        mean(x, 60, 0, 1);
        x.one(0, 0, 5);
        x.one(0, 0, 50);
        mean(x, 0, 55, 3);
        Due.library(x, "up 1 p=1");
        mean(x, 2, 19, 1);
        mean(x, 60, 115, 3);
        x.one(0, 0, 1);
        mean(x, 0, 14, 1);
        mean(x, 2, 29, 2);
        due.is("mean: n -1", x.mean(-1, 0), AtlasEnds.NO);
        due.is("mean: n 61", x.mean(61, 0), AtlasEnds.NO);
        due.is("mean: part 2", x.mean(0, 2), AtlasEnds.NO);
        due.is("mean: part -1", x.mean(0, -1), AtlasEnds.NO);
        due.is("mean: as it was", x.of(1, 2), 5);
    }
}
