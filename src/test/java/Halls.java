/** Objects as the tests of boundary cases want them: with something of all, and full of all. */
final class Halls {
    static final String TEN_CLAUSES = "bear 1;bear 2;bear 3;bear 4;bear 5;bear 6;bear 7;bear 8;bear 9;bear 1";

    private Halls() {
    }

    /** As silent(), and THE TEXT holds a LIBRARY that isn't read yet. */
    static Atlas some() {
        Atlas a = silent();
        a.feedAll("up 4 p<3");
        return a;
    }

    /** Four PEOPLE, three LEAVES, a LIBRARY, rows of all that is told by hand, TAPES, THE TRACE, THE IMAGE. */
    static Atlas silent() {
        Atlas a = new Atlas();
        a.one(6, 4, 10);
        a.one(1, 3, 30);
        a.one(5, 7, 50);
        a.one(4, 2, 52);
        a.leaf(20);
        a.leaf(15);
        a.leaf(12);
        a.hold(0, 0, 1);
        a.hold(1, 1, 2);
        a.row(0, 1, 7);
        a.library("up 3 k=6|j>1;down 2 v<4&!x=5;bear 9");
        a.see(0, 3, false);
        a.plan(3, 1);
        a.book(2, 50);
        a.image();
        a.pass(1);
        a.row(0, 0, 9);
        a.see(1, 0, true);
        a.plan(0, 0);
        a.book(1, 30);
        a.act(1, 2, 5);
        a.tapeOf(0, 0, 10, 34, 50, 52);
        a.tapeOf(1, 1, 300, 301, 302);
        a.tapeOf(2, 4, 1, 0, 1);
        return a;
    }

    /** The LEAF of 0, who stays, and 1, who goes up by 1, is let go in the 20th STEP, if they don't change. */
    static Atlas twenty() {
        Atlas a = Atlas.ones(0, 10);
        a.library("up 1 p=1;bear 0");
        a.leaf(29);
        a.hold(0, 0, 1);
        return a;
    }

    /** Six PEOPLE, four LEAVES, six LIBRARIES, 100 signs, 5 rows of SEEN, 10 of the PLAN, 8 of the BOOK. */
    static Atlas full() {
        Atlas a = new Atlas();
        for (int p = 0; p < 6; p++) {
            a.one(6 - p, p, p * 10);
        }
        for (int leaf = 0; leaf < 4; leaf++) {
            a.leaf(10 + leaf);
        }
        a.hold(0, 0, 1);
        a.hold(1, 1, 2);
        a.hold(2, 0, 5);
        for (int library = 0; library < 6; library++) {
            a.library("bear " + library);
        }
        for (int i = 0; i < 5; i++) {
            a.see(i % 4, i, false);
        }
        for (int i = 0; i < 10; i++) {
            a.plan(0, 0);
        }
        for (int i = 0; i < 8; i++) {
            a.book(i % 6, i % 6 * 10);
        }
        a.feedAll(TEN_CLAUSES);
        a.feedAll("................................".substring(0, 100 - TEN_CLAUSES.length()));
        return a;
    }
}
