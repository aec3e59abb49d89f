/** Boundary cases of "Terms" 2: what is asked of how all goes on. */
final class AheadEdges extends Edge {

    // ---- all of it

    /** At STEP 9999, where no STEP goes any more. */
    private static Atlas atTheLastStep() {
        Atlas a = new Atlas();
        for (int i = 0; i < 166; i++) {
            a.pass(60);
        }
        a.pass(39);
        return a;
    }

    @Of(part = "Terms 2", says = "goes on from how all is (STEPS, DROPS beyond 9999, too)")
    static void askedBeyondStep9999() {
        Atlas a = atTheLastStep();
        a.one(3, 0, 50);
        a.one(0, 0, 50);
        is(9999, a.told(0));
        is(STATE, a.pass(1));
        // STEP 9999 modulo 8 is 7, modulo 10 is 9; 10000 modulo 8 is 0, 10004 modulo 8 is 4.
        a.library("up 2 p=0;up 1 p=1&s=0");
        is(-2, a.of(0, 4));
        is(48, a.on(1, 10));
        is(50, a.on(2, 10));
        is(56, a.on(5, 10));
        is(54, a.on(6, 10));
        is(50, a.on(1, 11));
        is(51, a.on(2, 11));
        is(51, a.on(11, 11));
        is(52, a.on(12, 11));
    }

    @Of(part = "Terms 2", says = "goes on from how all is (STEPS, DROPS beyond 9999, too)")
    static void allElseAskedBeyondStep9999() {
        Atlas a = atTheLastStep();
        a.one(0, 0, 50);
        a.one(0, 0, 51);
        a.one(0, 0, 60);
        a.leaf(5);
        a.hold(0, 0, 1);
        // At STEPS 10001 .. 10005 one goes up by 3.
        a.library("up 3 p=1&s>0&s<6;bear 0");
        is(4, a.sheet(0, 3));
        is(5, a.meets(1, 2));
        is(1, a.best(4, 1));
        is(NOT_ANY, a.best(3, 1));
        is(NOT_ANY, a.best(3, 0));
        is(1, a.best(4, 0));
        is(NOT_ANY, a.best(5, 0));
        is(1, a.odds(0, 3, 0));
        is(0, a.odds(0, 4, 0));
        is(167, a.mean(4, 0));
        a.plan(0, 0);
        a.plan(0, 0);
        a.plan(0, 0);
        is(164, a.ends(1));
        // 4 apart in the third STEP, and drawn to 2: TAUT with LENGTH 1 alone.
        a.library("up 3 p=1&s>0&s<6;bear 99");
        a.see(0, 3, true);
        is(1, a.sheet(0, 5));
        is(1, a.sheet(0, 6));
        is(9999, a.told(0));
    }

    @Of(part = "Terms 2", says = "goes on from how all is")
    static void askedFromNowOn() {
        Atlas a = Atlas.ones(0, 40);
        a.library("up 1 p=0");
        is(10, a.on(10, 10));
        is(40, a.meets(0, 1));
        a.pass(10);
        is(20, a.on(10, 10));
        is(30, a.meets(0, 1));
        a.walk(0, 35);
        is(45, a.on(10, 10));
        is(5, a.meets(0, 1));
    }

    @Of(part = "Terms 2", says = "and changes nothing")
    static void askedOfAStep() {
        changesNothing(Halls::some, a -> {
            for (int what = 0; what <= 13; what++) {
                a.on(60, what);
            }
        });
        changesNothing(Halls::some, a -> {
            for (int leaf = 0; leaf < 3; leaf++) {
                for (int what = 3; what <= 6; what++) {
                    a.sheet(leaf, what);
                }
                a.odds(leaf, 20, 0);
            }
        });
        changesNothing(Halls::some, a -> {
            a.meets(0, 1);
            a.best(20, 0);
            a.best(20, 1);
            a.can(0, 0);
            a.can(1, 1);
            a.mean(60, 0);
            a.ends(0);
            a.ends(1);
            a.looked();
        });
    }

    // ---- ON

    @Of(part = "Terms 2",
        says = "ON n STEPS (0 .. 60): PLACE of one; which LEAVES are TAUT (bits); which are held (bits); DROPS.")
    static void onNoneAndSixty() {
        Atlas a = Atlas.ones(0, 40, 99);
        a.leaf(40);
        a.leaf(1);
        a.hold(0, 0, 1);
        a.hold(1, 1, 2);
        a.library("up 1 p=0");
        is(0, a.on(0, 0));
        is(2, a.on(0, 1));
        is(3, a.on(0, 2));
        is(0, a.on(0, 10));
        is(1, a.on(1, 0));
        is(1, a.on(1, 2));
        is(59, a.on(59, 10));
        is(60, a.on(60, 10));
        is(1, a.on(60, 0));
        is(0, a.on(60, 1));
        is(1, a.on(60, 2));
        for (int n : outside(0, 60)) {
            is(BAD, a.on(n, 10));
        }
    }

    @Of(part = "Terms 2", says = "ON n STEPS (0 .. 60)")
    static void onTheSixtieth() {
        // In the STEP from 59 to 60 the LEAF is let go.
        Atlas a = oneGoesUpAt(9, 6);
        is(1, a.on(59, 2));
        is(0, a.on(59, 0));
        is(0, a.on(60, 2));
        is(1, a.on(60, 0));
        // 30 apart behind 50 STEPS; 36 in the 60th, and drawn to 34.
        Atlas b = Atlas.ones(0, 0);
        b.library("up 6 p=1&s=9;bear 99");
        b.leaf(33);
        b.hold(0, 0, 1);
        is(0, b.on(59, 1));
        is(30, b.on(59, 11));
        is(1, b.on(60, 1));
        is(1, b.on(60, 10));
        is(35, b.on(60, 11));
    }

    @Of(part = "Terms 2", says = "ON n STEPS (0 .. 60): PLACE of one")
    static void onTheSixthOfEachKind() {
        // Behind a STEP, and behind one more.
        int[] first = {54, 59, 52, 54, 50, 53, 55};
        int[] second = {58, 68, 54, 58, 59, 56, 55};
        for (int kind = 0; kind <= 6; kind++) {
            Atlas a = Atlas.ones(0, 0, 0, 0, 50);
            a.one(kind, 5, 50);
            for (int leaf = 0; leaf < 4; leaf++) {
                a.leaf(40);
            }
            a.hold(3, 4, 5);
            a.row(5, 0, 5);
            a.library("up 4 p=5");
            is(first[kind], a.on(1, 15));
            is(second[kind], a.on(2, 15));
            is(8, a.on(2, 2));
            is(0, a.on(2, 1));
        }
    }

    // ---- LASTS

    /** One goes up by 1 at the STEPS that end in this digit; BEAR is 0. */
    private static Atlas oneGoesUpAt(int digit, int length) {
        Atlas a = Atlas.ones(0, 1);
        a.library("up 1 p=1&s=" + digit + ";bear 0");
        a.leaf(length);
        a.hold(0, 0, 1);
        return a;
    }

    @Of(part = "Terms 2",
        says = "LASTS of a LEAF that is held: the fewest STEPS (0 .. 60) behind which it is not (-5: not by then")
    static void lastsUpToSixty() {
        // The sixth time in the STEP from 59 to 60, the seventh in the STEP from 60 to 61.
        is(50, oneGoesUpAt(9, 5).sheet(0, 3));
        is(60, oneGoesUpAt(9, 6).sheet(0, 3));
        is(51, oneGoesUpAt(0, 6).sheet(0, 3));
        is(NOT_ANY, oneGoesUpAt(0, 7).sheet(0, 3));
        is(59, oneGoesUpAt(8, 6).sheet(0, 3));
        is(NOT_ANY, oneGoesUpAt(9, 7).sheet(0, 3));
    }

    @Of(part = "Terms 2", says = "the fewest STEPS (0 .. 60) behind which it is not")
    static void lastsOne() {
        is(1, oneGoesUpAt(0, 1).sheet(0, 3));
        is(2, oneGoesUpAt(1, 1).sheet(0, 3));
        Atlas a = oneGoesUpAt(9, 1);
        a.walk(1, 99);
        is(1, a.sheet(0, 3));
    }

    @Of(part = "Terms 2", says = "or it is not held now). MEETS")
    static void lastsOfALeafThatIsNotHeld() {
        Atlas a = oneGoesUpAt(0, 1);
        a.leaf(1);
        is(NOT_ANY, a.sheet(1, 3));
        a.pass(1);
        is(0, a.told(4));
        is(NOT_ANY, a.sheet(0, 3));
    }

    // ---- MEETS

    @Of(part = "Terms 2",
        says = "MEETS of two: the fewest STEPS (0 .. 60) behind which they are at one PLACE (-5: not by then).")
    static void meetsNowAndBySixty() {
        Atlas a = Atlas.ones(0, 0, 1, 59, 60, 61);
        a.library("up 1 p=0");
        is(0, a.meets(0, 1));
        is(1, a.meets(0, 2));
        is(59, a.meets(0, 3));
        is(60, a.meets(0, 4));
        is(60, a.meets(4, 0));
        is(NOT_ANY, a.meets(0, 5));
        is(NOT_ANY, a.meets(5, 0));
    }

    @Of(part = "Terms 2", says = "behind which they are at one PLACE (-5: not by then)")
    static void meetsNotByGoingPast() {
        Atlas a = Atlas.ones(0, 5, 8, 99);
        a.library("up 2 p=0");
        is(NOT_ANY, a.meets(0, 1));
        is(4, a.meets(0, 2));
        // 98, then 99 at most.
        is(50, a.meets(0, 3));
    }

    // ---- PARTNER

    @Of(part = "Terms 2",
        says = "the one, none of its HOLDERS, by whom, were it its second HOLDER now instead, LASTS is greatest")
    static void partnerIsNoneOfItsHolders() {
        // Held by 0 alone it would last for good; so it would by 1 and 1, who stand at one PLACE.
        Atlas a = Atlas.ones(0, 50);
        a.leaf(10);
        a.hold(0, 0, 1);
        is(NOT_ANY, a.sheet(0, 4));
        a.hold(0, 1, 0);
        is(NOT_ANY, a.sheet(0, 4));
    }

    @Of(part = "Terms 2", says = "by whom, were it its second HOLDER now instead")
    static void partnerIsForTheSecond() {
        Atlas a = Atlas.ones(0, 50, 45);
        a.leaf(10);
        a.hold(0, 1, 0);
        is(2, a.sheet(0, 4));
        a.hold(0, 0, 1);
        is(NOT_ANY, a.sheet(0, 4));
    }

    /** All but 0 go up by 1 in each STEP; BEAR 0, LENGTH 20: with one at PLACE p it lasts 21 - p. */
    private static Atlas allGoUp(int... places) {
        Atlas a = Atlas.ones(places);
        a.library("up 1 p>0;bear 0");
        a.leaf(20);
        return a;
    }

    @Of(part = "Terms 2", says = "LASTS is greatest, if greater than as it is")
    static void partnerIsTheGreatestAndGreaterThanAsItIs() {
        Atlas a = allGoUp(0, 18, 17, 15, 16, 19);
        a.hold(0, 0, 1);
        is(3, a.sheet(0, 3));
        is(3, a.sheet(0, 4));
        a.hold(0, 0, 5);
        is(3, a.sheet(0, 4));
        a.hold(0, 0, 3);
        is(NOT_ANY, a.sheet(0, 4));
        a.hold(0, 0, 4);
        is(3, a.sheet(0, 4));
        a.walk(3, 16);
        is(NOT_ANY, a.sheet(0, 4));
        a.walk(3, 17);
        is(NOT_ANY, a.sheet(0, 4));
    }

    @Of(part = "Terms 2", says = "-5 being greater than all")
    static void partnerNotByThenIsGreaterThanSixty() {
        // 1 lasts 60, 2 for good.
        Atlas a = Atlas.ones(0, 1, 0);
        a.library("up 1 p=1&s=9;bear 0");
        a.leaf(6);
        a.hold(0, 0, 1);
        is(60, a.sheet(0, 3));
        is(2, a.sheet(0, 4));
        a.hold(0, 0, 2);
        is(NOT_ANY, a.sheet(0, 3));
        is(NOT_ANY, a.sheet(0, 4));
    }

    @Of(part = "Terms 2", says = "(of several the first; -5: none, or it is not held). CHANGE")
    static void partnerOfSeveralIsTheFirst() {
        Atlas a = allGoUp(0, 19, 15, 15, 15, 18);
        a.hold(0, 0, 1);
        is(2, a.sheet(0, 4));
        Atlas b = Atlas.ones(0, 50, 60, 1, 2, 3);
        b.leaf(10);
        b.hold(0, 0, 1);
        is(3, b.sheet(0, 4));
    }

    @Of(part = "Terms 2", says = "the one, none of its HOLDERS, by whom, were it its second HOLDER now instead")
    static void partnerFromTheFirstToTheLast() {
        for (int p = 0; p < 6; p++) {
            Atlas a = new Atlas();
            for (int other = 0; other < 6; other++) {
                a.one(0, 0, other == p ? 50 : other == (p + 1) % 6 ? 55 : 99);
            }
            a.leaf(10);
            a.hold(0, (p + 1) % 6, (p + 2) % 6);
            is(p, a.sheet(0, 4));
        }
    }

    @Of(part = "Terms 2", says = "-5: none, or it is not held). CHANGE")
    static void partnerOfALeafThatIsNotHeld() {
        Atlas a = Atlas.ones(0, 50, 1);
        a.leaf(10);
        is(NOT_ANY, a.sheet(0, 4));
        a.hold(0, 0, 1);
        is(2, a.sheet(0, 4));
        a.free(0);
        is(NOT_ANY, a.sheet(0, 4));
    }

    // ---- CHANGE

    @Of(part = "Terms 2", says = "CHANGE of n STEPS (1 .. 20)")
    static void changeOfOneAndOfTwenty() {
        Atlas a = Halls.twenty();
        is(NOT_ANY, a.best(19, 0));
        is(1, a.best(20, 0));
        Atlas b = Atlas.ones(0, 29, 25);
        b.leaf(29);
        b.hold(0, 0, 1);
        b.library("up 1 p=1;bear 0");
        is(1, b.best(1, 0));
        for (int n : outside(1, 20)) {
            is(BAD, b.best(n, 0));
        }
        // As it is, it is let go at once; if 1 and 2 change, in the 20th STEP.
        Atlas c = Atlas.ones(0, 50, 10);
        c.library("up 1 p=1;bear 0");
        c.leaf(29);
        c.hold(0, 0, 1);
        is(12, c.best(19, 0));
        is(NOT_ANY, c.best(20, 0));
    }

    @Of(part = "Terms 2",
        says = "the two (10 times the lesser and the greater number) who should change their PLACES now")
    static void changeTellsTheLesserFirst() {
        // 4 holds and is far off, 5 is near: who is lesser doesn't hang on who holds.
        Atlas a = Atlas.ones(0, 50, 0, 0, 90, 50);
        a.leaf(10);
        a.hold(0, 4, 1);
        is(45, a.best(1, 0));
        a.hold(0, 1, 4);
        is(45, a.best(1, 0));
        Atlas b = Atlas.ones(0, 50, 90, 5, 90, 90);
        b.leaf(10);
        b.hold(0, 1, 0);
        is(13, b.best(1, 0));
        is(50, b.of(1, 2));
        is(5, b.of(3, 2));
    }

    @Of(part = "Terms 2", says = "so that DROPS are least behind n")
    static void changeIsTheLeast() {
        // 0 and 1 changed save one of two LEAVES, 0 and 3 both.
        Atlas a = Atlas.ones(0, 60, 30, 90);
        a.leaf(25);
        a.leaf(25);
        a.hold(0, 0, 1);
        a.hold(1, 2, 3);
        is(2, a.on(1, 0));
        is(3, a.best(1, 0));
    }

    @Of(part = "Terms 2", says = "if less than as it is")
    static void changeIsLessThanAsItIs() {
        Atlas a = Atlas.ones(0, 50, 99);
        a.leaf(10);
        a.hold(0, 0, 1);
        is(NOT_ANY, a.best(1, 0));
        a.walk(1, 5);
        is(NOT_ANY, a.best(1, 0));
        a.hold(0, 0, 2);
        a.pass(1);
        a.hold(0, 0, 2);
        is(1, a.told(2));
        is(12, a.best(1, 0));
        a.free(0);
        is(NOT_ANY, a.best(1, 0));
    }

    @Of(part = "Terms 2", says = "(of several the first; -5: none). SPARE")
    static void changeOfSeveralIsTheFirst() {
        Atlas a = Atlas.ones(0, 50, 45, 48);
        a.leaf(10);
        a.hold(0, 0, 1);
        is(2, a.best(1, 0));
        a.walk(2, 5);
        // 0 and 3, or 1 and 2.
        is(3, a.best(1, 0));
        a.walk(3, 99);
        is(12, a.best(1, 0));
        a.walk(3, 5);
        is(12, a.best(1, 0));
        a.walk(2, 99);
        is(13, a.best(1, 0));
    }

    @Of(part = "Terms 2", says = "-5: none). SPARE")
    static void changeOfNoneOrOne() {
        is(NOT_ANY, new Atlas().best(20, 0));
        is(NOT_ANY, Atlas.ones(5).best(20, 0));
        is(NOT_ANY, Atlas.ones(5, 50).best(20, 0));
    }

    // ---- SPARE

    @Of(part = "Terms 2", says = "SPARE of n STEPS (1 .. 20)")
    static void spareOfOneAndOfTwenty() {
        Atlas a = Halls.twenty();
        is(NOT_ANY, a.best(1, 1));
        is(NOT_ANY, a.best(19, 1));
        is(1, a.best(20, 1));
        a.walk(1, 29);
        is(1, a.best(1, 1));
        for (int n : outside(1, 20)) {
            is(BAD, a.best(n, 1));
        }
    }

    @Of(part = "Terms 2", says = "the set with the fewest LEAVES that are held")
    static void spareIsTheFewest() {
        // 0 and 1 together let 1 go; 2 goes alone: as bits 3 is less than 4, but more.
        Atlas a = Atlas.ones(0, 20, 40, 99);
        a.leaf(14);
        a.leaf(14);
        a.leaf(40);
        a.hold(0, 0, 1);
        a.hold(1, 1, 2);
        is(3, a.best(1, 1));
        a.hold(2, 0, 3);
        is(4, a.best(1, 1));
    }

    @Of(part = "Terms 2", says = "LEAVES that are held (as bits; of several the least as bits)")
    static void spareOfSeveralIsTheLeast() {
        Atlas a = Atlas.ones(0, 99, 50);
        for (int leaf = 0; leaf < 4; leaf++) {
            a.leaf(10);
        }
        a.hold(3, 0, 1);
        is(8, a.best(1, 1));
        a.hold(2, 0, 1);
        is(4, a.best(1, 1));
        a.hold(1, 0, 1);
        is(2, a.best(1, 1));
        a.hold(0, 0, 1);
        is(1, a.best(1, 1));
        a.free(0);
        is(2, a.best(1, 1));
    }

    @Of(part = "Terms 2", says = "LEAVES that are held (as bits; of several the least as bits)")
    static void spareOfAllFour() {
        // Three draw 0 away from 2 by 1 each: only then LEAF 3 has a GAP of 7.
        Atlas a = Atlas.ones(50, 10, 90);
        for (int leaf = 0; leaf < 3; leaf++) {
            a.leaf(35);
            a.hold(leaf, 0, 1);
        }
        a.leaf(36);
        a.hold(3, 0, 2);
        is(15, a.best(1, 1));
        // With LENGTH 35 two are enough: 0 and 1 with 3.
        Atlas b = Atlas.ones(50, 10, 89);
        for (int leaf = 0; leaf < 3; leaf++) {
            b.leaf(35);
            b.hold(leaf, 0, 1);
        }
        b.leaf(34);
        b.hold(3, 0, 2);
        is(11, b.best(1, 1));
        b.free(0);
        is(14, b.best(1, 1));
        b.free(1);
        is(NOT_ANY, b.best(1, 1));
    }

    @Of(part = "Terms 2",
        says = "were all others let go now (DROPS as they are), DROPS behind n are more than now (-5: none)")
    static void spareIsMoreThanNow() {
        is(NOT_ANY, new Atlas().best(20, 1));
        Atlas a = Atlas.ones(0, 99, 10);
        a.leaf(10);
        a.leaf(40);
        is(NOT_ANY, a.best(1, 1));
        a.hold(0, 0, 1);
        a.pass(1);
        is(1, a.told(2));
        a.hold(0, 0, 2);
        a.hold(1, 0, 2);
        is(NOT_ANY, a.best(20, 1));
        a.hold(1, 0, 1);
        is(2, a.best(20, 1));
        is(3, a.told(4));
        is(1, a.told(2));
    }
}
