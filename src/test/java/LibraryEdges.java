/** Boundary cases of promises 11 to 13: feed, library, told. */
final class LibraryEdges extends Edge {

    // ---- 11: feed

    @Of(part = "Promise 11", says = "A sign (0 .. 127) comes behind THE TEXT's: how many it has.")
    static void feedTellsHowMany() {
        Atlas a = new Atlas();
        is(1, a.feed('b'));
        is(2, a.feed(0));
        is(3, a.feed(127));
        is(3, a.count(6));
        // The signs stand one behind the other: the first that is wrong is the second.
        is(-11, a.library());
        is(1, a.feed('b'));
    }

    @Of(part = "Promise 11", says = "BAD")
    static void feedOfABadSign() {
        Atlas a = new Atlas();
        for (int sign : outside(0, 127)) {
            is(BAD, a.feed(sign));
        }
        is(BAD, a.feed(255));
        is(BAD, a.feed(256 + 'b'));
        is(1, a.feed(0));
        is(2, a.feed(127));
    }

    @Of(part = "Promise 11", says = "FULL")
    static void feedMoreThanAHundred() {
        Atlas a = new Atlas();
        for (int i = 1; i <= 100; i++) {
            is(i, a.feed('b'));
        }
        is(FULL, a.feed('b'));
        is(FULL, a.feed(0));
        is(FULL, a.feed(127));
        is(100, a.count(6));
        a.library();
        is(1, a.feed('b'));
    }

    @Of(part = "Promise 11", says = "BAD; FULL")
    static void feedRefusesInOrder() {
        Atlas a = Halls.full();
        is(BAD, a.feed(128));
        is(BAD, a.feed(-1));
        is(FULL, a.feed(127));
    }

    @Of(part = "Promise 11", says = "BAD; FULL")
    static void feedRefusedChangesNothing() {
        changesNothing(Halls::some, a -> {
            is(BAD, a.feed(-1));
            is(BAD, a.feed(128));
            is(BAD, a.feed(MOST));
        });
        changesNothing(LibraryEdges::hundredSigns, a -> is(FULL, a.feed('1')));
    }

    /** A LIBRARY of 100 signs is about to be read. */
    private static Atlas hundredSigns() {
        Atlas a = Atlas.ones(5, 6);
        a.feedAll(TextEdges.hundred());
        return a;
    }

    // ---- 12: library

    @Of(part = "Promise 12",
        says = "THE TEXT, which is empty then (by a FAULT, too), is a LIBRARY, and holds: its number.")
    static void libraryIsNumberedFromZero() {
        Atlas a = Atlas.ones(50);
        for (int library = 0; library < 6; library++) {
            is(library, a.library("bear " + (10 + library) + ";up " + library + " p=0"));
            is(0, a.count(6));
            is(library + 1, a.count(2));
            is(10 + library, a.told(1));
            is(library, a.of(0, 4));
        }
    }

    @Of(part = "Promise 12", says = "THE TEXT, which is empty then (by a FAULT, too)")
    static void libraryEmptiesTheTextByAFault() {
        Atlas a = new Atlas();
        is(-16, a.library("bear 1 "));
        is(0, a.count(6));
        is(1, a.feed('b'));
        // What stood there ahead is gone: "b" alone ends too early.
        is(-11, a.library());
        is(0, a.library("bear 1"));
    }

    @Of(part = "Promise 12", says = "THE TEXT, which is empty then (by a FAULT, too)")
    static void libraryLeavesNothingOfAnOlderText() {
        // Each text is the beginning of the one ahead of it: what stood behind it there is gone.
        Atlas a = Atlas.ones(5);
        String text = "up 1 !(p<12|v>3&k=0)";
        is(0, a.library(text));
        for (int n = text.length() - 1; n >= 0; n--) {
            is(-10 - n, a.library(text.substring(0, n)));
        }
        is(-11, a.library("b"));
        is(-18, a.library("bear 12;x"));
        is(1, a.library("bear 1"));
        is(1, a.told(1));
    }

    @Of(part = "Promise 12", says = "THE TEXT, which is empty then (by a FAULT, too)")
    static void libraryHasNothingOfATextWithAFault() {
        Atlas a = Atlas.ones(5);
        is(-26, a.library("bear 9;up 5 p=0;!"));
        is(0, a.library("up 2 p=0"));
        is(6, a.told(1));
        is(2, a.of(0, 4));
        is(1, a.count(2));
    }

    @Of(part = "Promise 12", says = "FULL: there are 6 (THE TEXT stays)")
    static void libraryMoreThanSix() {
        Atlas a = Atlas.ones(50);
        for (int library = 0; library < 5; library++) {
            a.library("bear " + library);
        }
        is(5, a.library("bear 7"));
        is(FULL, a.library());
        is(FULL, a.library("bear 8"));
        is(6, a.count(6));
        is(7, a.feed('9'));
        is(FULL, a.library());
        is(7, a.count(6));
        is(6, a.count(2));
        is(7, a.told(1));
    }

    @Of(part = "Promise 12", says = "-10 less the FAULT")
    static void libraryTellsTheFault() {
        Atlas a = new Atlas();
        is(-10, a.library());
        is(-10, a.library("x"));
        is(-11, a.library("b"));
        is(-12, a.library("up"));
        is(-109, a.library(TextEdges.hundred().substring(0, 99)));
        is(-110, a.library(TextEdges.hundredTooShort()));
        is(0, a.library("bear 1"));
    }

    @Of(part = "Promise 12", says = "(the one that held holds)")
    static void libraryByAFaultTheOneThatHeldHolds() {
        Atlas a = Atlas.ones(50);
        is(-26, a.library("up 9 p=0;bear 4;!"));
        is(6, a.told(1));
        is(0, a.of(0, 4));
        is(0, a.library("up 7 p=0;bear 3"));
        is(-26, a.library("up 9 p=0;bear 4;!"));
        is(3, a.told(1));
        is(7, a.of(0, 4));
        is(1, a.count(2));
        is(1, a.library("up 2 p=0"));
        is(6, a.told(1));
        is(2, a.of(0, 4));
    }

    @Of(part = "Promise 12", says = "FULL: there are 6 (THE TEXT stays); -10 less the FAULT (the one that held holds)")
    static void libraryRefusesInOrder() {
        Atlas a = Halls.full();
        is(100, a.count(6));
        is(FULL, a.library());
        is(100, a.count(6));
        is(5, a.told(1));
    }

    @Of(part = "Promise 12", says = "FULL: there are 6 (THE TEXT stays); -10 less the FAULT (the one that held holds)")
    static void libraryRefusedChangesNothing() {
        changesNothing(Halls::full, a -> is(FULL, a.library()));
        // A FAULT empties THE TEXT; all else is as it was.
        changesNothing(Halls::silent, a -> is(-15, a.library("bear x")));
        changesNothing(Halls::silent, a -> is(-27, a.library("bear 1;up 99 p<9&")));
    }

    // ---- 13: told

    @Of(part = "Promise 13",
        says = "What 0 STEP, 1 BEAR, 2 DROPS, 3 which LEAVES are TAUT (bits), 4 which are held (bits).")
    static void toldWhat() {
        Atlas a = Halls.some();
        a.leaf(1);
        a.hold(3, 0, 3);
        is(1, a.told(0));
        is(9, a.told(1));
        is(0, a.told(2));
        is(11, a.told(3));
        is(11, a.told(4));
        a.pass(1);
        is(2, a.told(0));
        is(1, a.told(2));
        is(3, a.told(4));
        is(0, a.told(3));
    }

    @Of(part = "Promise 13", says = "3 which LEAVES are TAUT (bits), 4 which are held (bits).")
    static void toldBitsFromNoneToAll() {
        Atlas a = Atlas.ones(0, 40, 41);
        for (int leaf = 0; leaf < 4; leaf++) {
            a.leaf(40);
        }
        is(0, a.told(3));
        is(0, a.told(4));
        for (int leaf = 0; leaf < 4; leaf++) {
            a.hold(leaf, 0, 1);
            is(0, a.told(3));
            is((2 << leaf) - 1, a.told(4));
        }
        for (int leaf = 0; leaf < 4; leaf++) {
            a.hold(leaf, 0, 2);
            is((2 << leaf) - 1, a.told(3));
            is(15, a.told(4));
        }
    }

    @Of(part = "Promise 13", says = "NONE")
    static void toldNoWhat() {
        Atlas a = Halls.some();
        for (int what : outside(0, 4)) {
            is(NONE, a.told(what));
        }
    }

    @Of(part = "Promise 13", says = "NONE")
    static void toldChangesNothing() {
        changesNothing(Halls::some, a -> {
            for (int what = -1; what <= 5; what++) {
                a.told(what);
            }
        });
    }
}
