/** Boundary cases of "Terms" 2: what is asked of how all goes on, what is told by hand. */
final class AheadEdges extends Edge {

    // ---- all of it

    /** At STEP 9999, where no STEP goes any more. */
    private static Atlas atTheLastStep() {
        Atlas a = new Atlas();
        for (int i = 0; i < 166; i++) {
            a.pass(60);
        }
        a.pass(39);
        return a;
    }

    @Of(part = "Terms 2", says = "goes on from how all is (STEPS, DROPS beyond 9999, too)")
    static void askedBeyondStep9999() {
        Atlas a = atTheLastStep();
        a.one(3, 0, 50);
        a.one(0, 0, 50);
        is(9999, a.told(0));
        is(STATE, a.pass(1));
        // STEP 9999 modulo 8 is 7, modulo 10 is 9; 10000 modulo 8 is 0, 10004 modulo 8 is 4.
        a.library("up 2 p=0;up 1 p=1&s=0");
        is(-2, a.of(0, 4));
        is(48, a.on(1, 10));
        is(50, a.on(2, 10));
        is(56, a.on(5, 10));
        is(54, a.on(6, 10));
        is(50, a.on(1, 11));
        is(51, a.on(2, 11));
        is(51, a.on(11, 11));
        is(52, a.on(12, 11));
    }

    @Of(part = "Terms 2", says = "goes on from how all is (STEPS, DROPS beyond 9999, too)")
    static void allElseAskedBeyondStep9999() {
        Atlas a = atTheLastStep();
        a.one(0, 0, 50);
        a.one(0, 0, 51);
        a.one(0, 0, 60);
        a.leaf(5);
        a.hold(0, 0, 1);
        // At STEPS 10001 .. 10005 one goes up by 3.
        a.library("up 3 p=1&s>0&s<6;bear 0");
        is(4, a.sheet(0, 3));
        is(5, a.meets(1, 2));
        is(1, a.best(4, 1));
        is(NOT_ANY, a.best(3, 1));
        is(NOT_ANY, a.best(3, 0));
        is(1, a.best(4, 0));
        is(NOT_ANY, a.best(5, 0));
        is(1, a.odds(0, 3, 0));
        is(0, a.odds(0, 4, 0));
        is(167, a.mean(4, 0));
        a.plan(0, 0);
        a.plan(0, 0);
        a.plan(0, 0);
        is(164, a.ends(1));
        // 4 apart in the third STEP, and drawn to 2: TAUT with LENGTH 1 alone.
        a.library("up 3 p=1&s>0&s<6;bear 99");
        a.see(0, 3, true);
        is(1, a.sheet(0, 5));
        is(1, a.sheet(0, 6));
        is(9999, a.told(0));
    }

    @Of(part = "Terms 2", says = "goes on from how all is")
    static void askedFromNowOn() {
        Atlas a = Atlas.ones(0, 40);
        a.library("up 1 p=0");
        is(10, a.on(10, 10));
        is(40, a.meets(0, 1));
        a.pass(10);
        is(20, a.on(10, 10));
        is(30, a.meets(0, 1));
        a.walk(0, 35);
        is(45, a.on(10, 10));
        is(5, a.meets(0, 1));
    }

    @Of(part = "Terms 2", says = "and changes nothing")
    static void askedOfAStep() {
        changesNothing(Halls::some, a -> {
            for (int what = 0; what <= 13; what++) {
                a.on(60, what);
            }
        });
        changesNothing(Halls::some, a -> {
            for (int leaf = 0; leaf < 3; leaf++) {
                for (int what = 3; what <= 6; what++) {
                    a.sheet(leaf, what);
                }
                a.odds(leaf, 20, 0);
            }
        });
        changesNothing(Halls::some, a -> {
            a.meets(0, 1);
            a.best(20, 0);
            a.best(20, 1);
            a.can(0, 0);
            a.can(1, 1);
            a.mean(60, 0);
            a.ends(0);
            a.ends(1);
            a.looked();
        });
    }

    // ---- ON

    @Of(part = "Terms 2",
        says = "ON n STEPS (0 .. 60): PLACE of one; which LEAVES are TAUT (bits); which are held (bits); DROPS.")
    static void onNoneAndSixty() {
        Atlas a = Atlas.ones(0, 40, 99);
        a.leaf(40);
        a.leaf(1);
        a.hold(0, 0, 1);
        a.hold(1, 1, 2);
        a.library("up 1 p=0&!s=9;up 1 p=0&s=9");
        is(0, a.on(0, 0));
        is(2, a.on(0, 1));
        is(3, a.on(0, 2));
        is(0, a.on(0, 10));
        is(1, a.on(1, 0));
        is(1, a.on(1, 2));
        is(59, a.on(59, 10));
        is(60, a.on(60, 10));
        is(1, a.on(60, 0));
        is(0, a.on(60, 1));
        is(1, a.on(60, 2));
        for (int n : outside(0, 60)) {
            is(BAD, a.on(n, 10));
        }
    }

    @Of(part = "Terms 2", says = "ON n STEPS (0 .. 60)")
    static void onTheSixtieth() {
        // In the STEP from 59 to 60 the LEAF is let go.
        Atlas a = oneGoesUpAt(9, 6);
        is(1, a.on(59, 2));
        is(0, a.on(59, 0));
        is(0, a.on(60, 2));
        is(1, a.on(60, 0));
        // 30 apart behind 50 STEPS; 36 in the 60th, and drawn to 34.
        Atlas b = Atlas.ones(0, 0);
        b.library("up 6 p=1&s=9;bear 99");
        b.leaf(33);
        b.hold(0, 0, 1);
        is(0, b.on(59, 1));
        is(30, b.on(59, 11));
        is(1, b.on(60, 1));
        is(1, b.on(60, 10));
        is(35, b.on(60, 11));
    }

    @Of(part = "Terms 2", says = "ON n STEPS (0 .. 60): PLACE of one")
    static void onTheSixthOfEachKind() {
        // Behind a STEP, and behind one more.
        int[] first = {54, 59, 52, 54, 50, 53, 55};
        int[] second = {58, 68, 54, 58, 59, 56, 55};
        for (int kind = 0; kind <= 6; kind++) {
            Atlas a = Atlas.ones(0, 0, 0, 0, 50);
            a.one(kind, 5, 50);
            for (int leaf = 0; leaf < 4; leaf++) {
                a.leaf(40);
            }
            a.hold(3, 4, 5);
            a.row(5, 0, 5);
            a.library("up 4 p=5");
            is(first[kind], a.on(1, 15));
            is(second[kind], a.on(2, 15));
            is(8, a.on(2, 2));
            is(0, a.on(2, 1));
        }
    }

    // ---- LASTS

    /** One goes up by 1 at the STEPS that end in this digit, 10 times a hundred; BEAR is 0. */
    private static Atlas oneGoesUpAt(int digit, int length) {
        Atlas a = Atlas.ones(0, 1);
        a.library("up 1 p=1&s=" + digit + ";bear 0");
        a.leaf(length);
        a.hold(0, 0, 1);
        return a;
    }

    @Of(part = "Terms 2", says = "LASTS of a LEAF that is held: the fewest STEPS (0 .. 60) behind which it is not (-5: not by then")
    static void lastsUpToSixty() {
        // The sixth time in the STEP from 59 to 60, the seventh in the STEP from 60 to 61.
        is(50, oneGoesUpAt(9, 5).sheet(0, 3));
        is(60, oneGoesUpAt(9, 6).sheet(0, 3));
        is(51, oneGoesUpAt(0, 6).sheet(0, 3));
        is(NOT_ANY, oneGoesUpAt(0, 7).sheet(0, 3));
        is(59, oneGoesUpAt(8, 6).sheet(0, 3));
        is(NOT_ANY, oneGoesUpAt(9, 7).sheet(0, 3));
    }

    @Of(part = "Terms 2", says = "the fewest STEPS (0 .. 60) behind which it is not")
    static void lastsOne() {
        is(1, oneGoesUpAt(0, 1).sheet(0, 3));
        is(2, oneGoesUpAt(1, 1).sheet(0, 3));
        Atlas a = oneGoesUpAt(9, 1);
        a.walk(1, 99);
        is(1, a.sheet(0, 3));
    }

    @Of(part = "Terms 2", says = "or it is not held now). MEETS")
    static void lastsOfALeafThatIsNotHeld() {
        Atlas a = oneGoesUpAt(0, 1);
        a.leaf(1);
        is(NOT_ANY, a.sheet(1, 3));
        a.pass(1);
        is(0, a.told(4));
        is(NOT_ANY, a.sheet(0, 3));
    }

    // ---- MEETS

    @Of(part = "Terms 2", says = "MEETS of two: the fewest STEPS (0 .. 60) behind which they are at one PLACE (-5: not by then).")
    static void meetsNowAndBySixty() {
        Atlas a = Atlas.ones(0, 0, 1, 59, 60, 61);
        a.library("up 1 p=0");
        is(0, a.meets(0, 1));
        is(1, a.meets(0, 2));
        is(59, a.meets(0, 3));
        is(60, a.meets(0, 4));
        is(60, a.meets(4, 0));
        is(NOT_ANY, a.meets(0, 5));
        is(NOT_ANY, a.meets(5, 0));
    }

    @Of(part = "Terms 2", says = "behind which they are at one PLACE (-5: not by then)")
    static void meetsNotByGoingPast() {
        Atlas a = Atlas.ones(0, 5, 8, 99);
        a.library("up 2 p=0");
        is(NOT_ANY, a.meets(0, 1));
        is(4, a.meets(0, 2));
        // 98, then 99 at most.
        is(50, a.meets(0, 3));
    }

    // ---- PARTNER

    @Of(part = "Terms 2", says = "the one, none of its HOLDERS, by whom, were it its second HOLDER now instead, LASTS is greatest")
    static void partnerIsNoneOfItsHolders() {
        // Held by 0 alone it would last for good; so it would by 1 and 1, who stand at one PLACE.
        Atlas a = Atlas.ones(0, 50);
        a.leaf(10);
        a.hold(0, 0, 1);
        is(NOT_ANY, a.sheet(0, 4));
        a.hold(0, 1, 0);
        is(NOT_ANY, a.sheet(0, 4));
    }

    @Of(part = "Terms 2", says = "by whom, were it its second HOLDER now instead")
    static void partnerIsForTheSecond() {
        Atlas a = Atlas.ones(0, 50, 45);
        a.leaf(10);
        a.hold(0, 1, 0);
        is(2, a.sheet(0, 4));
        a.hold(0, 0, 1);
        is(NOT_ANY, a.sheet(0, 4));
    }

    /** All but 0 go up by 1 in each STEP; BEAR 0, LENGTH 20: with one at PLACE p it lasts 21 - p. */
    private static Atlas allGoUp(int... places) {
        Atlas a = Atlas.ones(places);
        a.library("up 1 p>0;bear 0");
        a.leaf(20);
        return a;
    }

    @Of(part = "Terms 2", says = "LASTS is greatest, if greater than as it is")
    static void partnerIsTheGreatestAndGreaterThanAsItIs() {
        Atlas a = allGoUp(0, 18, 17, 15, 16, 19);
        a.hold(0, 0, 1);
        is(3, a.sheet(0, 3));
        is(3, a.sheet(0, 4));
        a.hold(0, 0, 5);
        is(3, a.sheet(0, 4));
        a.hold(0, 0, 3);
        is(NOT_ANY, a.sheet(0, 4));
        a.hold(0, 0, 4);
        is(3, a.sheet(0, 4));
        a.walk(3, 16);
        is(NOT_ANY, a.sheet(0, 4));
        a.walk(3, 17);
        is(NOT_ANY, a.sheet(0, 4));
    }

    @Of(part = "Terms 2", says = "-5 being greater than all")
    static void partnerNotByThenIsGreaterThanSixty() {
        // 1 lasts 60, 2 for good.
        Atlas a = Atlas.ones(0, 1, 0);
        a.library("up 1 p=1&s=9;bear 0");
        a.leaf(6);
        a.hold(0, 0, 1);
        is(60, a.sheet(0, 3));
        is(2, a.sheet(0, 4));
        a.hold(0, 0, 2);
        is(NOT_ANY, a.sheet(0, 3));
        is(NOT_ANY, a.sheet(0, 4));
    }

    @Of(part = "Terms 2", says = "(of several the first; -5: none, or it is not held). CHANGE")
    static void partnerOfSeveralIsTheFirst() {
        Atlas a = allGoUp(0, 19, 15, 15, 15, 18);
        a.hold(0, 0, 1);
        is(2, a.sheet(0, 4));
        Atlas b = Atlas.ones(0, 50, 60, 1, 2, 3);
        b.leaf(10);
        b.hold(0, 0, 1);
        is(3, b.sheet(0, 4));
    }

    @Of(part = "Terms 2", says = "the one, none of its HOLDERS, by whom, were it its second HOLDER now instead")
    static void partnerFromTheFirstToTheLast() {
        for (int p = 0; p < 6; p++) {
            Atlas a = new Atlas();
            for (int other = 0; other < 6; other++) {
                a.one(0, 0, other == p ? 50 : other == (p + 1) % 6 ? 55 : 99);
            }
            a.leaf(10);
            a.hold(0, (p + 1) % 6, (p + 2) % 6);
            is(p, a.sheet(0, 4));
        }
    }

    @Of(part = "Terms 2", says = "-5: none, or it is not held). CHANGE")
    static void partnerOfALeafThatIsNotHeld() {
        Atlas a = Atlas.ones(0, 50, 1);
        a.leaf(10);
        is(NOT_ANY, a.sheet(0, 4));
        a.hold(0, 0, 1);
        is(2, a.sheet(0, 4));
        a.free(0);
        is(NOT_ANY, a.sheet(0, 4));
    }

    // ---- CHANGE

    /** The LEAF of 0, who stays, and 1, who goes up by 1, is let go in the 20th STEP, if they don't change. */
    private static Atlas twenty() {
        Atlas a = Atlas.ones(0, 10);
        a.library("up 1 p=1;bear 0");
        a.leaf(29);
        a.hold(0, 0, 1);
        return a;
    }

    @Of(part = "Terms 2", says = "CHANGE of n STEPS (1 .. 20)")
    static void changeOfOneAndOfTwenty() {
        Atlas a = twenty();
        is(NOT_ANY, a.best(19, 0));
        is(1, a.best(20, 0));
        Atlas b = Atlas.ones(0, 29, 25);
        b.leaf(29);
        b.hold(0, 0, 1);
        b.library("up 1 p=1;bear 0");
        is(1, b.best(1, 0));
        for (int n : outside(1, 20)) {
            is(BAD, b.best(n, 0));
        }
        // As it is, it is let go at once; if 1 and 2 change, in the 20th STEP.
        Atlas c = Atlas.ones(0, 50, 10);
        c.library("up 1 p=1;bear 0");
        c.leaf(29);
        c.hold(0, 0, 1);
        is(12, c.best(19, 0));
        is(NOT_ANY, c.best(20, 0));
    }

    @Of(part = "Terms 2", says = "the two (10 times the lesser and the greater number) who should change their PLACES now")
    static void changeTellsTheLesserFirst() {
        // 4 holds and is far off, 5 is near: who is lesser doesn't hang on who holds.
        Atlas a = Atlas.ones(0, 50, 0, 0, 90, 50);
        a.leaf(10);
        a.hold(0, 4, 1);
        is(45, a.best(1, 0));
        a.hold(0, 1, 4);
        is(45, a.best(1, 0));
        Atlas b = Atlas.ones(0, 50, 90, 5, 90, 90);
        b.leaf(10);
        b.hold(0, 1, 0);
        is(13, b.best(1, 0));
        is(50, b.of(1, 2));
        is(5, b.of(3, 2));
    }

    @Of(part = "Terms 2", says = "so that DROPS are least behind n")
    static void changeIsTheLeast() {
        // 0 and 1 changed save one of two LEAVES, 0 and 3 both.
        Atlas a = Atlas.ones(0, 60, 30, 90);
        a.leaf(25);
        a.leaf(25);
        a.hold(0, 0, 1);
        a.hold(1, 2, 3);
        is(2, a.on(1, 0));
        is(3, a.best(1, 0));
    }

    @Of(part = "Terms 2", says = "if less than as it is")
    static void changeIsLessThanAsItIs() {
        Atlas a = Atlas.ones(0, 50, 99);
        a.leaf(10);
        a.hold(0, 0, 1);
        is(NOT_ANY, a.best(1, 0));
        a.walk(1, 5);
        is(NOT_ANY, a.best(1, 0));
        a.hold(0, 0, 2);
        a.pass(1);
        a.hold(0, 0, 2);
        is(1, a.told(2));
        is(12, a.best(1, 0));
        a.free(0);
        is(NOT_ANY, a.best(1, 0));
    }

    @Of(part = "Terms 2", says = "(of several the first; -5: none). SPARE")
    static void changeOfSeveralIsTheFirst() {
        Atlas a = Atlas.ones(0, 50, 45, 48);
        a.leaf(10);
        a.hold(0, 0, 1);
        is(2, a.best(1, 0));
        a.walk(2, 5);
        // 0 and 3, or 1 and 2.
        is(3, a.best(1, 0));
        a.walk(3, 99);
        is(12, a.best(1, 0));
        a.walk(3, 5);
        is(12, a.best(1, 0));
        a.walk(2, 99);
        is(13, a.best(1, 0));
    }

    @Of(part = "Terms 2", says = "-5: none). SPARE")
    static void changeOfNoneOrOne() {
        is(NOT_ANY, new Atlas().best(20, 0));
        is(NOT_ANY, Atlas.ones(5).best(20, 0));
        is(NOT_ANY, Atlas.ones(5, 50).best(20, 0));
    }

    // ---- SPARE

    @Of(part = "Terms 2", says = "SPARE of n STEPS (1 .. 20)")
    static void spareOfOneAndOfTwenty() {
        Atlas a = twenty();
        is(NOT_ANY, a.best(1, 1));
        is(NOT_ANY, a.best(19, 1));
        is(1, a.best(20, 1));
        a.walk(1, 29);
        is(1, a.best(1, 1));
        for (int n : outside(1, 20)) {
            is(BAD, a.best(n, 1));
        }
    }

    @Of(part = "Terms 2", says = "the set with the fewest LEAVES that are held")
    static void spareIsTheFewest() {
        // 0 and 1 together let 1 go; 2 goes alone: as bits 3 is less than 4, but more.
        Atlas a = Atlas.ones(0, 20, 40, 99);
        a.leaf(14);
        a.leaf(14);
        a.leaf(40);
        a.hold(0, 0, 1);
        a.hold(1, 1, 2);
        is(3, a.best(1, 1));
        a.hold(2, 0, 3);
        is(4, a.best(1, 1));
    }

    @Of(part = "Terms 2", says = "LEAVES that are held (as bits; of several the least as bits)")
    static void spareOfSeveralIsTheLeast() {
        Atlas a = Atlas.ones(0, 99, 50);
        for (int leaf = 0; leaf < 4; leaf++) {
            a.leaf(10);
        }
        a.hold(3, 0, 1);
        is(8, a.best(1, 1));
        a.hold(2, 0, 1);
        is(4, a.best(1, 1));
        a.hold(1, 0, 1);
        is(2, a.best(1, 1));
        a.hold(0, 0, 1);
        is(1, a.best(1, 1));
        a.free(0);
        is(2, a.best(1, 1));
    }

    @Of(part = "Terms 2", says = "LEAVES that are held (as bits; of several the least as bits)")
    static void spareOfAllFour() {
        // Three draw 0 away from 2 by 1 each: only then LEAF 3 has a GAP of 7.
        Atlas a = Atlas.ones(50, 10, 90);
        for (int leaf = 0; leaf < 3; leaf++) {
            a.leaf(35);
            a.hold(leaf, 0, 1);
        }
        a.leaf(36);
        a.hold(3, 0, 2);
        is(15, a.best(1, 1));
        // With LENGTH 35 two are enough: 0 and 1 with 3.
        Atlas b = Atlas.ones(50, 10, 89);
        for (int leaf = 0; leaf < 3; leaf++) {
            b.leaf(35);
            b.hold(leaf, 0, 1);
        }
        b.leaf(34);
        b.hold(3, 0, 2);
        is(11, b.best(1, 1));
        b.free(0);
        is(14, b.best(1, 1));
        b.free(1);
        is(NOT_ANY, b.best(1, 1));
    }

    @Of(part = "Terms 2", says = "were all others let go now (DROPS as they are), DROPS behind n are more than now (-5: none)")
    static void spareIsMoreThanNow() {
        is(NOT_ANY, new Atlas().best(20, 1));
        Atlas a = Atlas.ones(0, 99, 10);
        a.leaf(10);
        a.leaf(40);
        is(NOT_ANY, a.best(1, 1));
        a.hold(0, 0, 1);
        a.pass(1);
        is(1, a.told(2));
        a.hold(0, 0, 2);
        a.hold(1, 0, 2);
        is(NOT_ANY, a.best(20, 1));
        a.hold(1, 0, 1);
        is(2, a.best(20, 1));
        is(3, a.told(4));
        is(1, a.told(2));
    }

    // ---- SEEN, LENGTHS, CAN

    @Of(part = "Terms 2", says = "STEPS n (0 .. 12) from now, whether it is TAUT then")
    static void seenFromNowToTwelve() {
        Atlas a = Atlas.ones(0, 20);
        a.leaf(40);
        a.hold(0, 0, 1);
        a.see(0, 0, true);
        is(19, a.sheet(0, 5));
        is(1, a.sheet(0, 6));
        // 33 apart behind 11 STEPS, if it is slack until then: TAUT in the 12th alone with 29, 31 and 33.
        a.walk(1, 0);
        a.library("up 3 p=1;bear 99");
        a.see(-1, 0, true);
        a.see(0, 12, true);
        a.see(0, 11, false);
        is(3, a.sheet(0, 5));
        is(29, a.sheet(0, 6));
        a.see(0, 10, true);
        is(0, a.sheet(0, 5));
        for (int n : outside(0, 12)) {
            is(BAD, a.see(0, n, true));
        }
    }

    @Of(part = "Terms 2", says = "(5 rows at most)")
    static void seenFiveRows() {
        Atlas a = Atlas.ones(0, 10);
        a.leaf(10);
        a.hold(0, 0, 1);
        for (int i = 1; i <= 4; i++) {
            is(i, a.see(0, 0, false));
        }
        is(31, a.sheet(0, 5));
        is(5, a.see(0, 0, true));
        is(0, a.sheet(0, 5));
        is(FULL, a.see(0, 0, true));
        is(5, a.count(3));
    }

    @Of(part = "Terms 2", says = "LENGTHS of a LEAF: how many numbers (1 .. 40) there are by which, were that its LENGTH, all of SEEN is so")
    static void lengthsFromNoneToAll() {
        Atlas a = Atlas.ones(0, 0);
        a.leaf(7);
        is(40, a.sheet(0, 5));
        a.hold(0, 0, 1);
        a.see(0, 0, false);
        int[] slack = {40, 40, 39, 38, 2, 1, 0, 0};
        int[] places = {0, 1, 2, 3, 39, 40, 41, 99};
        for (int i = 0; i < places.length; i++) {
            a.walk(1, places[i]);
            is(slack[i], a.sheet(0, 5));
        }
        is(7, a.sheet(0, 0));
    }

    @Of(part = "Terms 2", says = "all of SEEN is so; the least (-5: none). CAN")
    static void lengthsTheLeast() {
        Atlas a = Atlas.ones(0, 0);
        a.leaf(7);
        is(1, a.sheet(0, 6));
        a.hold(0, 0, 1);
        a.see(0, 0, false);
        int[] least = {1, 1, 2, 3, 39, 40, NOT_ANY, NOT_ANY};
        int[] places = {0, 1, 2, 3, 39, 40, 41, 99};
        for (int i = 0; i < places.length; i++) {
            a.walk(1, places[i]);
            is(least[i], a.sheet(0, 6));
        }
        a.see(-1, 0, true);
        a.see(0, 0, true);
        int[] taut = {NOT_ANY, NOT_ANY, 1, 1, 1, 1, 1, 1};
        int[] many = {0, 0, 1, 2, 38, 39, 40, 40};
        for (int i = 0; i < places.length; i++) {
            a.walk(1, places[i]);
            is(taut[i], a.sheet(0, 6));
            is(many[i], a.sheet(0, 5));
        }
    }

    @Of(part = "Terms 2", says = "all of SEEN is so")
    static void lengthsByAllOfSeen() {
        Atlas a = Atlas.ones(0, 20, 0);
        a.leaf(7);
        a.leaf(7);
        a.hold(0, 0, 1);
        a.see(0, 0, true);
        is(19, a.sheet(0, 5));
        a.see(1, 0, true);
        is(0, a.sheet(0, 5));
        is(0, a.sheet(1, 5));
        a.see(-1, 0, true);
        a.see(1, 0, false);
        a.see(0, 0, true);
        is(19, a.sheet(0, 5));
        is(40, a.sheet(1, 5));
        a.see(0, 1, false);
        a.library("bear 3");
        // TAUT with 19 and less now; slack behind a STEP: let go with 16 and less, drawn to 18 with the others.
        is(18, a.sheet(0, 5));
    }

    @Of(part = "Terms 2", says = "CAN of one: how many numbers v (0 .. 9) likewise; the least (-5: none)")
    static void canFromNoneToAll() {
        Atlas a = new Atlas();
        a.one(0, 5, 0);
        a.one(0, 5, 10);
        a.leaf(10);
        a.hold(0, 0, 1);
        is(10, a.can(1, 0));
        is(0, a.can(1, 1));
        a.see(0, 0, false);
        is(10, a.can(1, 0));
        is(0, a.can(1, 1));
        a.see(0, 0, true);
        is(0, a.can(1, 0));
        is(NOT_ANY, a.can(1, 1));
    }

    @Of(part = "Terms 2", says = "how many numbers v (0 .. 9) likewise; the least (-5: none)")
    static void canByTheEndsOfV() {
        // By these the LEAF of 0 and 1 is TAUT behind a STEP: 1 goes up by 3, and is drawn back by 1.
        int[] many = {1, 9, 1, 9, 5, 5};
        int[] least = {0, 1, 9, 0, 0, 5};
        String[] tests = {"v<1", "v>0", "v>8", "v<9", "v<5", "v>4"};
        for (int i = 0; i < tests.length; i++) {
            Atlas a = new Atlas();
            a.one(0, 5, 0);
            a.one(0, 5, 10);
            a.leaf(10);
            a.hold(0, 0, 1);
            a.library("up 3 p=1&" + tests[i]);
            a.see(0, 1, true);
            is(many[i], a.can(1, 0));
            is(least[i], a.can(1, 1));
            is(5, a.of(1, 1));
        }
    }

    // ---- ODDS, MEAN

    private static void fraction(long above, long below, long gotAbove, long gotBelow) {
        is(above, gotAbove);
        is(below, gotBelow);
    }

    @Of(part = "Terms 2", says = "ODDS of a LEAF and n STEPS (0 .. 20)")
    static void oddsOfNoneAndOfTwenty() {
        // The LEAF is let go in the 20th STEP.
        Atlas a = twenty();
        fraction(1, 1, a.odds(0, 0, 0), a.odds(0, 0, 1));
        fraction(1, 1, a.odds(0, 19, 0), a.odds(0, 19, 1));
        fraction(0, 1, a.odds(0, 20, 0), a.odds(0, 20, 1));
        a.walk(1, 99);
        fraction(1, 1, a.odds(0, 0, 0), a.odds(0, 0, 1));
        fraction(0, 1, a.odds(0, 1, 0), a.odds(0, 1, 1));
        for (int n : outside(0, 20)) {
            is(NO, a.odds(0, n, 0));
        }
    }

    @Of(part = "Terms 2", says = "if any two of PEOPLE, each pair alike likely, are its HOLDERS now: how likely it is held behind n: "
        + "a fraction in lowest terms (NO: there are fewer than two)")
    static void oddsOfPairs() {
        Atlas a = new Atlas();
        a.leaf(10);
        is(NO, a.odds(0, 1, 0));
        is(NO, a.odds(0, 1, 1));
        a.one(0, 0, 0);
        is(NO, a.odds(0, 0, 0));
        is(NO, a.odds(0, 1, 1));
        a.one(0, 0, 5);
        fraction(1, 1, a.odds(0, 1, 0), a.odds(0, 1, 1));
        a.one(0, 0, 50);
        fraction(1, 3, a.odds(0, 1, 0), a.odds(0, 1, 1));
        a.one(0, 0, 55);
        fraction(1, 3, a.odds(0, 1, 0), a.odds(0, 1, 1));
        a.one(0, 0, 90);
        fraction(1, 5, a.odds(0, 1, 0), a.odds(0, 1, 1));
        a.one(0, 0, 95);
        fraction(1, 5, a.odds(0, 1, 0), a.odds(0, 1, 1));
        a.walk(5, 56);
        fraction(4, 15, a.odds(0, 1, 0), a.odds(0, 1, 1));
        a.hold(0, 0, 4);
        fraction(4, 15, a.odds(0, 1, 0), a.odds(0, 1, 1));
        fraction(1, 1, a.odds(0, 0, 0), a.odds(0, 0, 1));
    }

    @Of(part = "Terms 2", says = "MEAN of n STEPS (0 .. 60): PLACE of all behind n, together, by how many they are: "
        + "a fraction in lowest terms (NO: there are none)")
    static void meanOfNoneAndOfSixty() {
        Atlas a = new Atlas();
        is(NO, a.mean(0, 0));
        is(NO, a.mean(60, 1));
        a.one(0, 0, 0);
        a.library("up 1 p=0");
        fraction(0, 1, a.mean(0, 0), a.mean(0, 1));
        fraction(59, 1, a.mean(59, 0), a.mean(59, 1));
        fraction(60, 1, a.mean(60, 0), a.mean(60, 1));
        a.one(0, 0, 1);
        fraction(1, 2, a.mean(0, 0), a.mean(0, 1));
        fraction(1, 1, a.mean(1, 0), a.mean(1, 1));
        fraction(61, 2, a.mean(60, 0), a.mean(60, 1));
        a.one(0, 0, 99);
        a.one(0, 0, 99);
        a.one(0, 0, 99);
        a.one(0, 0, 99);
        fraction(397, 6, a.mean(0, 0), a.mean(0, 1));
        fraction(199, 3, a.mean(1, 0), a.mean(1, 1));
        fraction(133, 2, a.mean(2, 0), a.mean(2, 1));
        for (int n : outside(0, 60)) {
            is(NO, a.mean(n, 0));
        }
    }

    // ---- the PLAN, the BOOK

    @Of(part = "Terms 2", says = "what goes (0 a STEP, 1 LEAF n is let go, if it is held (DROPS as they are), "
        + "2 LENGTH of LEAF n is 40, 3 one is at PLACE 0; 10 rows at most): ENDS: DROPS; PLACES of all, together.")
    static void planOfEach() {
        Atlas a = Atlas.ones(4, 55);
        a.leaf(10);
        a.hold(0, 0, 1);
        is(0, a.ends(0));
        is(59, a.ends(1));
        a.plan(0, 0);
        is(1, a.ends(0));
        a.plan(-1, 0);
        a.plan(1, 0);
        a.plan(1, 0);
        a.plan(0, 0);
        is(0, a.ends(0));
        a.plan(-1, 0);
        a.plan(3, 1);
        is(4, a.ends(1));
        a.plan(3, 0);
        is(0, a.ends(1));
        is(10, a.sheet(0, 0));
        is(1, a.told(4));
    }

    @Of(part = "Terms 2", says = "2 LENGTH of LEAF n is 40")
    static void planLengthForty() {
        // 40 apart is slack with 40, 41 is not.
        Atlas a = Atlas.ones(0, 40, 41, 81);
        a.leaf(10);
        a.leaf(10);
        a.hold(0, 0, 1);
        a.hold(1, 0, 2);
        a.library("bear 0");
        a.plan(2, 0);
        a.plan(2, 1);
        a.plan(0, 0);
        is(1, a.ends(0));
        is(162, a.ends(1));
        a.hold(1, 1, 3);
        is(1, a.ends(0));
        a.walk(3, 80);
        is(0, a.ends(0));
    }

    @Of(part = "Terms 2", says = "1 LEAF n is let go, if it is held (DROPS as they are)")
    static void planLetsGoALeafThatIsNotHeld() {
        Atlas a = Atlas.ones(4, 55);
        a.leaf(10);
        a.leaf(10);
        a.plan(1, 1);
        is(0, a.ends(0));
        is(59, a.ends(1));
        a.hold(0, 0, 1);
        a.plan(0, 0);
        is(1, a.ends(0));
        a.plan(1, 0);
        is(1, a.ends(0));
        is(59, a.ends(1));
    }

    @Of(part = "Terms 2", says = "10 rows at most")
    static void planTenRows() {
        Atlas a = Atlas.ones(0);
        a.library("up 1 p=0");
        for (int i = 1; i <= 10; i++) {
            is(i - 1, a.ends(1));
            is(i, a.plan(0, 0));
        }
        is(10, a.ends(1));
        is(FULL, a.plan(0, 0));
        is(10, a.ends(1));
    }

    @Of(part = "Terms 2", says = "A BOOK told by hand: PEOPLE, PLACES (0 .. 99; 8 at most)")
    static void bookEightRows() {
        Atlas a = Atlas.ones(0, 99);
        for (int i = 1; i <= 7; i++) {
            is(i, a.book(i % 2, i % 2 * 99));
            is(NOT_ANY, a.looked());
        }
        is(8, a.book(0, 99));
        is(7, a.looked());
        is(FULL, a.book(1, 0));
        for (int spot : outside(0, 99)) {
            is(BAD, a.book(0, spot));
        }
        is(7, a.looked());
    }

    @Of(part = "Terms 2",
        says = "LOOKED at: the number (from 0) of the first of these rows by which it is otherwise now (-5: none)")
    static void lookedAtTheFirst() {
        Atlas a = Atlas.ones(10, 20);
        is(NOT_ANY, a.looked());
        a.book(0, 10);
        is(NOT_ANY, a.looked());
        a.book(1, 21);
        is(1, a.looked());
        a.book(0, 11);
        is(1, a.looked());
        a.walk(0, 11);
        is(0, a.looked());
        a.walk(0, 10);
        a.walk(1, 21);
        is(2, a.looked());
        a.library("up 1 p=0");
        a.pass(1);
        is(0, a.looked());
    }

    // ---- ACTS, THE TRACE, THE IMAGE

    private static void act(int due, int kind, int v, int number, int act, int x, int... bodies) {
        Atlas a = new Atlas();
        for (int p = 0; p < number; p++) {
            a.one(0, 0, 0);
        }
        a.one(kind, v, 0);
        is(due, a.act(number, act, x));
        is(bodies.length, a.count(7));
        for (int i = 0; i < bodies.length; i++) {
            is(bodies[i], a.trace(i));
        }
        is(NONE, a.trace(bodies.length));
    }

    @Of(part = "Terms 2", says = "ACTS of one with x (wrapping): 0 bows, 1 tugs, 2 tells; i its number.")
    static void actsWrap() {
        act(LEAST, 0, 0, 1, 0, MOST, 10);
        act(LEAST + 4, 0, 0, 5, 0, MOST, 10);
        act(MOST, 0, 1, 0, 1, LEAST, 11, 10);
        act(MOST - 8, 0, 9, 0, 1, LEAST, 11, 10);
        act(LEAST, 0, 0, 0, 2, 1 << 30, 12, 11, 10);
        act(0, 0, 0, 0, 2, LEAST, 12, 11, 10);
        act(MOST - 2, 2, 0, 0, 0, MOST, 30, 10);
        act(LEAST, 4, 0, 0, 0, LEAST, 50, 10);
        act(LEAST + 1, 4, 0, 0, 0, MOST, 50, 10);
        act(6 ^ LEAST, 4, 0, 0, 1, MOST, 51, 20, 11, 50, 10);
        act(-4, 5, 0, 1, 2, LEAST, 60, 12, 11, 30, 10);
    }

    @Of(part = "Terms 2", says = "BODIES: ONE: 10 bows: x + i. 11 tugs: bows(x) - v. 12 tells: tugs(x) * 2.")
    static void bodiesOfOne() {
        act(15, 0, 4, 5, 0, 10, 10);
        act(11, 0, 4, 5, 1, 10, 11, 10);
        act(22, 0, 4, 5, 2, 10, 12, 11, 10);
        act(-10, 0, 0, 0, 0, -10, 10);
        act(-19, 0, 9, 0, 1, -10, 11, 10);
    }

    @Of(part = "Terms 2", says = "READER: 20 tugs: super.tugs(x) ^ 6. CLERK: 30 bows: super.bows(x * 3). "
        + "WALKER: 40 tells: super.tells(x) + tugs(1).")
    static void bodiesOfTheKindsUnderOne() {
        act(15, 1, 4, 5, 0, 10, 10);
        act(11 ^ 6, 1, 4, 5, 1, 10, 20, 11, 10);
        act((11 ^ 6) * 2, 1, 4, 5, 2, 10, 12, 20, 11, 10);
        act(35, 2, 4, 5, 0, 10, 30, 10);
        act(31, 2, 4, 5, 1, 10, 11, 30, 10);
        act(62, 2, 4, 5, 2, 10, 12, 11, 30, 10);
        act(15, 3, 4, 5, 0, 10, 10);
        act(11, 3, 4, 5, 1, 10, 11, 10);
        act(24, 3, 4, 5, 2, 10, 40, 12, 11, 10, 11, 10);
    }

    @Of(part = "Terms 2", says = "DREAMER: 50 bows: -super.bows(x). 51 tugs: super.tugs(x + 1). PORTER: 60 tells: super.tells(x - i). "
        + "TOLD: 70 tugs: super.tugs(x) + super.bows(2). 71 bows: super.bows(x) ^ v.")
    static void bodiesOfTheKindsBelow() {
        act(-15, 4, 4, 5, 0, 10, 50, 10);
        act((-16 - 4) ^ 6, 4, 4, 5, 1, 10, 51, 20, 11, 50, 10);
        act(((-16 - 4) ^ 6) * 2, 4, 4, 5, 2, 10, 12, 51, 20, 11, 50, 10);
        act(35, 5, 4, 5, 0, 10, 30, 10);
        act(31, 5, 4, 5, 1, 10, 11, 30, 10);
        act(32, 5, 4, 5, 2, 10, 60, 12, 11, 30, 10);
        act(15 ^ 4, 6, 4, 5, 0, 10, 71, 10);
        act((15 ^ 4) - 4 + 7, 6, 4, 5, 1, 10, 70, 11, 71, 10, 10);
        act(28 + (6 ^ 4) + 3, 6, 4, 5, 2, 10, 40, 12, 70, 11, 71, 10, 10, 70, 11, 71, 10, 10);
    }

    @Of(part = "Terms 2", says = "the body of its KIND, or, if that has none, of the next KIND above that has one; "
        + "super.bows(..): so from the KIND above the body's on; all that stands in a body is done from the left on.")
    static void bodiesAreLookedForUpward() {
        // A PORTER has no bows: its CLERK's; a DREAMER no tells: ONE's, not the READER's, who has none either.
        act(3, 5, 0, 0, 0, 1, 30, 10);
        act((-2 ^ 6) * 2, 4, 0, 0, 2, 1, 12, 51, 20, 11, 50, 10);
        // super of a TOLD's bows is ONE's, for a WALKER has none; in tells the WALKER's left part comes first.
        act(1, 6, 0, 0, 0, 1, 71, 10);
        act(9, 6, 0, 0, 2, 1, 40, 12, 70, 11, 71, 10, 10, 70, 11, 71, 10, 10);
    }

    @Of(part = "Terms 2", says = "THE TRACE: the numbers of the bodies that ran in the latest act(), as they began; the first 20 are kept.")
    static void traceIsOfTheLatest() {
        Atlas a = new Atlas();
        is(NONE, a.trace(0));
        a.one(6, 1, 1);
        a.act(0, 2, 1);
        is(12, a.count(7));
        is(10, a.trace(11));
        is(NONE, a.trace(12));
        a.act(0, 0, 1);
        is(71, a.trace(0));
        is(10, a.trace(1));
        is(NONE, a.trace(2));
        a.act(1, 0, 1);
        is(NONE, a.trace(0));
    }

    @Of(part = "Terms 2", says = "THE IMAGE: PEOPLE with all that is theirs, LEAVES, DROPS, STEP, SEEN, the PLAN, the BOOK, "
        + "which LIBRARY holds.")
    static void imageOfAll() {
        Atlas a = Halls.some();
        a.image();
        Atlas b = Halls.some();
        b.image();
        changeAll(a);
        a.undo();
        alike(a, b);
    }

    /** Changes all that THE IMAGE is of, and adds to it. */
    private static void changeAll(Atlas a) {
        for (int p = 0; p < 4; p++) {
            a.walk(p, 99 - p);
        }
        a.row(0, 2, 9);
        a.hold(0, 3, 2);
        a.free(1);
        a.hold(2, 0, 3);
        a.leaf(5);
        a.one(1, 9, 0);
        a.pass(3);
        a.hold(3, 0, 4);
        a.see(-1, 0, true);
        a.see(2, 5, true);
        a.see(2, 6, false);
        a.see(2, 7, false);
        a.plan(-1, 0);
        a.plan(1, 0);
        a.plan(3, 2);
        a.plan(0, 0);
        a.book(-1, 0);
        a.book(0, 7);
        a.book(3, 96);
        a.book(0, 7);
    }

    @Of(part = "Terms 2", says = "PEOPLE with all that is theirs")
    static void imageOfSixPeople() {
        Atlas a = new Atlas();
        for (int p = 0; p < 6; p++) {
            a.one(6, p + 1, p + 10);
            for (int part = 0; part < 4; part++) {
                a.row(p, part, p + part);
            }
        }
        a.image();
        for (int p = 0; p < 6; p++) {
            a.walk(p, 50);
            for (int part = 0; part < 4; part++) {
                a.row(p, part, 9);
            }
        }
        is(6, a.undo());
        for (int p = 0; p < 6; p++) {
            is(6, a.of(p, 0));
            is(p + 1, a.of(p, 1));
            is(p + 10, a.of(p, 2));
            for (int part = 0; part < 4; part++) {
                is(p + part, a.row(p, part, 0));
            }
        }
    }

    @Of(part = "Terms 2", says = "LEAVES, DROPS, STEP")
    static void imageOfFourLeaves() {
        Atlas a = Atlas.ones(0, 1, 2, 3, 4, 99);
        for (int leaf = 0; leaf < 4; leaf++) {
            a.leaf(30 + leaf);
        }
        a.hold(0, 0, 5);
        a.pass(1);
        for (int leaf = 1; leaf < 4; leaf++) {
            a.hold(leaf, leaf, leaf + 1);
        }
        a.image();
        a.hold(0, 4, 5);
        a.free(1);
        a.hold(2, 5, 0);
        a.hold(3, 0, 1);
        a.pass(2);
        is(3, a.told(2));
        is(3, a.told(0));
        is(6, a.undo());
        is(1, a.told(2));
        is(1, a.told(0));
        is(14, a.told(4));
        for (int leaf = 0; leaf < 4; leaf++) {
            is(30 + leaf, a.sheet(leaf, 0));
            is(leaf == 0 ? NOT_ANY : leaf, a.sheet(leaf, 1));
            is(leaf == 0 ? NOT_ANY : leaf + 1, a.sheet(leaf, 2));
        }
    }

    /** LEAVES of 0 and each of 1 to 4, who are 20 to 23 apart. */
    private static Atlas fourHeld() {
        Atlas a = Atlas.ones(0, 20, 21, 22, 23, 24);
        for (int leaf = 0; leaf < 4; leaf++) {
            a.leaf(30);
            a.hold(leaf, 0, 1 + leaf);
        }
        return a;
    }

    @Of(part = "Terms 2", says = "SEEN, the PLAN, the BOOK")
    static void imageOfSeen() {
        int[][] orders = {{0, 1, 2, 3, 3}, {3, 3, 2, 1, 0}};
        for (int[] order : orders) {
            Atlas a = fourHeld();
            for (int leaf : order) {
                a.see(leaf, 0, false);
            }
            a.image();
            a.see(-1, 0, true);
            for (int leaf : order) {
                a.see((leaf + 1) % 4, 12, true);
            }
            a.see(-1, 0, true);
            a.undo();
            is(5, a.count(3));
            for (int leaf = 0; leaf < 4; leaf++) {
                is(21 - leaf, a.sheet(leaf, 5));
                is(20 + leaf, a.sheet(leaf, 6));
            }
        }
    }

    @Of(part = "Terms 2", says = "SEEN, the PLAN, the BOOK")
    static void imageOfThePlan() {
        // Ten STEPS; four STEPS and all six at PLACE 0; the same the other way round.
        int[][] plans = {{-1, -1, -1, -1, -1, -1, -1, -1, -1, -1}, {-1, -1, -1, -1, 5, 4, 3, 2, 1, 0}, {0, 1, 2, 3, 4, 5, -1, -1, -1, -1}};
        int[] ends = {170, 0, 24};
        for (int k = 0; k < plans.length; k++) {
            Atlas a = fourHeld();
            a.library("up 1 p<9;bear 99");
            for (int n : plans[k]) {
                a.plan(n < 0 ? 0 : 3, n);
            }
            is(ends[k], a.ends(1));
            a.image();
            a.plan(-1, 0);
            for (int i = 0; i < 10; i++) {
                a.plan(2, i % 4);
            }
            a.plan(-1, 0);
            a.undo();
            is(10, a.count(4));
            is(ends[k], a.ends(1));
        }
    }

    @Of(part = "Terms 2", says = "SEEN, the PLAN, the BOOK")
    static void imageOfTheBook() {
        Atlas a = fourHeld();
        for (int i = 0; i < 8; i++) {
            a.book(i % 6, i % 6 == 0 ? 0 : 19 + i % 6);
        }
        is(NOT_ANY, a.looked());
        a.image();
        a.book(-1, 0);
        for (int i = 0; i < 8; i++) {
            a.book(5 - i % 6, 50);
        }
        a.book(-1, 0);
        a.undo();
        is(8, a.count(5));
        is(NOT_ANY, a.looked());
        a.walk(5, 50);
        is(5, a.looked());
        a.walk(5, 24);
        a.walk(1, 50);
        is(1, a.looked());
    }

    @Of(part = "Terms 2", says = "THE IMAGE: PEOPLE with all that is theirs, LEAVES, DROPS, STEP, SEEN, the PLAN, the BOOK, "
        + "which LIBRARY holds.")
    static void imageIsOfNothingElse() {
        Atlas a = Atlas.ones(5);
        a.image();
        a.tapeOf(0, 0, 7, 8);
        a.tapeOf(5, 4, 1);
        a.act(0, 2, 3);
        a.library("bear 1");
        a.feedAll("bear");
        a.undo();
        is(8, a.read(0, 1));
        is(1, a.read(5, 0));
        is(3, a.count(7));
        is(12, a.trace(0));
        is(10, a.trace(2));
        is(1, a.count(2));
        is(4, a.count(6));
        is(1, a.library(" 7"));
        is(7, a.told(1));
        is(1, a.undo());
    }

    @Of(part = "Terms 2", says = "which LIBRARY holds")
    static void imageOfTheLibraryThatHolds() {
        Atlas a = Atlas.ones(50);
        a.image();
        a.library("bear 1;up 1 p=0");
        a.undo();
        is(6, a.told(1));
        is(0, a.of(0, 4));
        is(1, a.count(2));
        a.library("bear 2;up 2 p=0");
        a.image();
        a.library("bear 3;up 3 p=0");
        is(3, a.told(1));
        a.undo();
        is(2, a.told(1));
        is(2, a.of(0, 4));
        is(3, a.count(2));
        is(3, a.library("bear 4"));
        is(4, a.told(1));
    }
}
