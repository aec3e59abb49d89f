/** Boundary cases of "Terms" 2: SEEN, LENGTHS, CAN, ODDS, MEAN, the PLAN, the BOOK. */
final class ByHandEdges extends Edge {

    // ---- SEEN, LENGTHS, CAN

    @Of(part = "Terms 2", says = "STEPS n (0 .. 12) from now, whether it is TAUT then")
    static void seenFromNowToTwelve() {
        Atlas a = Atlas.ones(0, 20);
        a.leaf(40);
        a.hold(0, 0, 1);
        a.see(0, 0, true);
        is(19, a.sheet(0, 5));
        is(1, a.sheet(0, 6));
        // 33 apart behind 11 STEPS, if it is slack until then: TAUT in the 12th alone with 29, 31 and 33.
        a.walk(1, 0);
        a.library("up 3 p=1;bear 99");
        a.see(-1, 0, true);
        a.see(0, 12, true);
        a.see(0, 11, false);
        is(3, a.sheet(0, 5));
        is(29, a.sheet(0, 6));
        a.see(0, 10, true);
        is(0, a.sheet(0, 5));
        for (int n : outside(0, 12)) {
            is(BAD, a.see(0, n, true));
        }
    }

    @Of(part = "Terms 2", says = "(5 rows at most)")
    static void seenFiveRows() {
        Atlas a = Atlas.ones(0, 10);
        a.leaf(10);
        a.hold(0, 0, 1);
        for (int i = 1; i <= 4; i++) {
            is(i, a.see(0, 0, false));
        }
        is(31, a.sheet(0, 5));
        is(5, a.see(0, 0, true));
        is(0, a.sheet(0, 5));
        is(FULL, a.see(0, 0, true));
        is(5, a.count(3));
    }

    @Of(part = "Terms 2",
        says = "LENGTHS of a LEAF: how many numbers (1 .. 40) there are by which, were that its LENGTH, all of "
            + "SEEN is so")
    static void lengthsFromNoneToAll() {
        Atlas a = Atlas.ones(0, 0);
        a.leaf(7);
        is(40, a.sheet(0, 5));
        a.hold(0, 0, 1);
        a.see(0, 0, false);
        int[] slack = {40, 40, 39, 38, 2, 1, 0, 0};
        int[] places = {0, 1, 2, 3, 39, 40, 41, 99};
        for (int i = 0; i < places.length; i++) {
            a.walk(1, places[i]);
            is(slack[i], a.sheet(0, 5));
        }
        is(7, a.sheet(0, 0));
    }

    @Of(part = "Terms 2", says = "all of SEEN is so; the least (-5: none). CAN")
    static void lengthsTheLeast() {
        Atlas a = Atlas.ones(0, 0);
        a.leaf(7);
        is(1, a.sheet(0, 6));
        a.hold(0, 0, 1);
        a.see(0, 0, false);
        int[] least = {1, 1, 2, 3, 39, 40, NOT_ANY, NOT_ANY};
        int[] places = {0, 1, 2, 3, 39, 40, 41, 99};
        for (int i = 0; i < places.length; i++) {
            a.walk(1, places[i]);
            is(least[i], a.sheet(0, 6));
        }
        a.see(-1, 0, true);
        a.see(0, 0, true);
        int[] taut = {NOT_ANY, NOT_ANY, 1, 1, 1, 1, 1, 1};
        int[] many = {0, 0, 1, 2, 38, 39, 40, 40};
        for (int i = 0; i < places.length; i++) {
            a.walk(1, places[i]);
            is(taut[i], a.sheet(0, 6));
            is(many[i], a.sheet(0, 5));
        }
    }

    @Of(part = "Terms 2", says = "all of SEEN is so")
    static void lengthsByAllOfSeen() {
        Atlas a = Atlas.ones(0, 20, 0);
        a.leaf(7);
        a.leaf(7);
        a.hold(0, 0, 1);
        a.see(0, 0, true);
        is(19, a.sheet(0, 5));
        a.see(1, 0, true);
        is(0, a.sheet(0, 5));
        is(0, a.sheet(1, 5));
        a.see(-1, 0, true);
        a.see(1, 0, false);
        a.see(0, 0, true);
        is(19, a.sheet(0, 5));
        is(40, a.sheet(1, 5));
        a.see(0, 1, false);
        a.library("bear 3");
        // TAUT with 19 and less now; slack behind a STEP: let go with 16 and less, drawn to 18 with the others.
        is(18, a.sheet(0, 5));
    }

    @Of(part = "Terms 2", says = "CAN of one: how many numbers v (0 .. 9) likewise; the least (-5: none)")
    static void canFromNoneToAll() {
        Atlas a = new Atlas();
        a.one(0, 5, 0);
        a.one(0, 5, 10);
        a.leaf(10);
        a.hold(0, 0, 1);
        is(10, a.can(1, 0));
        is(0, a.can(1, 1));
        a.see(0, 0, false);
        is(10, a.can(1, 0));
        is(0, a.can(1, 1));
        a.see(0, 0, true);
        is(0, a.can(1, 0));
        is(NOT_ANY, a.can(1, 1));
    }

    @Of(part = "Terms 2", says = "how many numbers v (0 .. 9) likewise; the least (-5: none)")
    static void canByTheEndsOfV() {
        // By these the LEAF of 0 and 1 is TAUT behind a STEP: 1 goes up by 3, and is drawn back by 1.
        int[] many = {1, 9, 1, 9, 5, 5};
        int[] least = {0, 1, 9, 0, 0, 5};
        String[] tests = {"v<1", "v>0", "v>8", "v<9", "v<5", "v>4"};
        for (int i = 0; i < tests.length; i++) {
            Atlas a = new Atlas();
            a.one(0, 5, 0);
            a.one(0, 5, 10);
            a.leaf(10);
            a.hold(0, 0, 1);
            a.library("up 3 p=1&" + tests[i]);
            a.see(0, 1, true);
            is(many[i], a.can(1, 0));
            is(least[i], a.can(1, 1));
            is(5, a.of(1, 1));
        }
    }

    // ---- ODDS, MEAN

    private static void fraction(long above, long below, long gotAbove, long gotBelow) {
        is(above, gotAbove);
        is(below, gotBelow);
    }

    @Of(part = "Terms 2", says = "ODDS of a LEAF and n STEPS (0 .. 20)")
    static void oddsOfNoneAndOfTwenty() {
        // The LEAF is let go in the 20th STEP.
        Atlas a = Halls.twenty();
        fraction(1, 1, a.odds(0, 0, 0), a.odds(0, 0, 1));
        fraction(1, 1, a.odds(0, 19, 0), a.odds(0, 19, 1));
        fraction(0, 1, a.odds(0, 20, 0), a.odds(0, 20, 1));
        a.walk(1, 99);
        fraction(1, 1, a.odds(0, 0, 0), a.odds(0, 0, 1));
        fraction(0, 1, a.odds(0, 1, 0), a.odds(0, 1, 1));
        for (int n : outside(0, 20)) {
            is(NO, a.odds(0, n, 0));
        }
    }

    @Of(part = "Terms 2",
        says = "if any two of PEOPLE, each pair alike likely, are its HOLDERS now: how likely it is held behind n: "
        + "a fraction in lowest terms (NO: there are fewer than two)")
    static void oddsOfPairs() {
        Atlas a = new Atlas();
        a.leaf(10);
        is(NO, a.odds(0, 1, 0));
        is(NO, a.odds(0, 1, 1));
        a.one(0, 0, 0);
        is(NO, a.odds(0, 0, 0));
        is(NO, a.odds(0, 1, 1));
        a.one(0, 0, 5);
        fraction(1, 1, a.odds(0, 1, 0), a.odds(0, 1, 1));
        a.one(0, 0, 50);
        fraction(1, 3, a.odds(0, 1, 0), a.odds(0, 1, 1));
        a.one(0, 0, 55);
        fraction(1, 3, a.odds(0, 1, 0), a.odds(0, 1, 1));
        a.one(0, 0, 90);
        fraction(1, 5, a.odds(0, 1, 0), a.odds(0, 1, 1));
        a.one(0, 0, 95);
        fraction(1, 5, a.odds(0, 1, 0), a.odds(0, 1, 1));
        a.walk(5, 56);
        fraction(4, 15, a.odds(0, 1, 0), a.odds(0, 1, 1));
        a.hold(0, 0, 4);
        fraction(4, 15, a.odds(0, 1, 0), a.odds(0, 1, 1));
        fraction(1, 1, a.odds(0, 0, 0), a.odds(0, 0, 1));
    }

    @Of(part = "Terms 2", says = "MEAN of n STEPS (0 .. 60): PLACE of all behind n, together, by how many they are: "
        + "a fraction in lowest terms (NO: there are none)")
    static void meanOfNoneAndOfSixty() {
        Atlas a = new Atlas();
        is(NO, a.mean(0, 0));
        is(NO, a.mean(60, 1));
        a.one(0, 0, 0);
        a.library("up 1 p=0");
        fraction(0, 1, a.mean(0, 0), a.mean(0, 1));
        fraction(59, 1, a.mean(59, 0), a.mean(59, 1));
        fraction(60, 1, a.mean(60, 0), a.mean(60, 1));
        a.one(0, 0, 1);
        fraction(1, 2, a.mean(0, 0), a.mean(0, 1));
        fraction(1, 1, a.mean(1, 0), a.mean(1, 1));
        fraction(61, 2, a.mean(60, 0), a.mean(60, 1));
        a.one(0, 0, 99);
        a.one(0, 0, 99);
        a.one(0, 0, 99);
        a.one(0, 0, 99);
        fraction(397, 6, a.mean(0, 0), a.mean(0, 1));
        fraction(199, 3, a.mean(1, 0), a.mean(1, 1));
        fraction(133, 2, a.mean(2, 0), a.mean(2, 1));
        for (int n : outside(0, 60)) {
            is(NO, a.mean(n, 0));
        }
    }

    // ---- the PLAN, the BOOK

    @Of(part = "Terms 2", says = "what goes (0 a STEP, 1 LEAF n is let go, if it is held (DROPS as they are), "
        + "2 LENGTH of LEAF n is 40, 3 one is at PLACE 0; 10 rows at most): ENDS: DROPS; PLACES of all, together.")
    static void planOfEach() {
        Atlas a = Atlas.ones(4, 55);
        a.leaf(10);
        a.hold(0, 0, 1);
        is(0, a.ends(0));
        is(59, a.ends(1));
        a.plan(0, 0);
        is(1, a.ends(0));
        a.plan(-1, 0);
        a.plan(1, 0);
        a.plan(1, 0);
        a.plan(0, 0);
        is(0, a.ends(0));
        a.plan(-1, 0);
        a.plan(3, 1);
        is(4, a.ends(1));
        a.plan(3, 0);
        is(0, a.ends(1));
        is(10, a.sheet(0, 0));
        is(1, a.told(4));
    }

    @Of(part = "Terms 2", says = "2 LENGTH of LEAF n is 40")
    static void planLengthForty() {
        // 40 apart is slack with 40, 41 is not.
        Atlas a = Atlas.ones(0, 40, 41, 81);
        a.leaf(10);
        a.leaf(10);
        a.hold(0, 0, 1);
        a.hold(1, 0, 2);
        a.library("bear 0");
        a.plan(2, 0);
        a.plan(2, 1);
        a.plan(0, 0);
        is(1, a.ends(0));
        is(162, a.ends(1));
        a.hold(1, 1, 3);
        is(1, a.ends(0));
        a.walk(3, 80);
        is(0, a.ends(0));
    }

    @Of(part = "Terms 2", says = "1 LEAF n is let go, if it is held (DROPS as they are)")
    static void planLetsGoALeafThatIsNotHeld() {
        Atlas a = Atlas.ones(4, 55);
        a.leaf(10);
        a.leaf(10);
        a.plan(1, 1);
        is(0, a.ends(0));
        is(59, a.ends(1));
        a.hold(0, 0, 1);
        a.plan(0, 0);
        is(1, a.ends(0));
        a.plan(1, 0);
        is(1, a.ends(0));
        is(59, a.ends(1));
    }

    @Of(part = "Terms 2", says = "10 rows at most")
    static void planTenRows() {
        Atlas a = Atlas.ones(0);
        a.library("up 1 p=0");
        for (int i = 1; i <= 10; i++) {
            is(i - 1, a.ends(1));
            is(i, a.plan(0, 0));
        }
        is(10, a.ends(1));
        is(FULL, a.plan(0, 0));
        is(10, a.ends(1));
    }

    @Of(part = "Terms 2", says = "A BOOK told by hand: PEOPLE, PLACES (0 .. 99; 8 at most)")
    static void bookEightRows() {
        Atlas a = Atlas.ones(0, 99);
        for (int i = 1; i <= 7; i++) {
            is(i, a.book(i % 2, i % 2 * 99));
            is(NOT_ANY, a.looked());
        }
        is(8, a.book(0, 99));
        is(7, a.looked());
        is(FULL, a.book(1, 0));
        for (int spot : outside(0, 99)) {
            is(BAD, a.book(0, spot));
        }
        is(7, a.looked());
    }

    @Of(part = "Terms 2",
        says = "LOOKED at: the number (from 0) of the first of these rows by which it is otherwise now (-5: none)")
    static void lookedAtTheFirst() {
        Atlas a = Atlas.ones(10, 20);
        is(NOT_ANY, a.looked());
        a.book(0, 10);
        is(NOT_ANY, a.looked());
        a.book(1, 21);
        is(1, a.looked());
        a.book(0, 11);
        is(1, a.looked());
        a.walk(0, 11);
        is(0, a.looked());
        a.walk(0, 10);
        a.walk(1, 21);
        is(2, a.looked());
        a.library("up 1 p=0");
        a.pass(1);
        is(0, a.looked());
    }
}
