/** Promises 26 to 28: judge, image, undo. */
public final class ImageTest {
    private static final Due due = new Due("ImageTest");

    public static void main(String[] args) {
        promise26Judge();
        promise26JudgeNobody();
        promise26JudgeSignedBytes();
        promise27And28ImageAndUndo();
        promise28WhatIsNoImage();
        promise28WhichLibraryHolds();
        due.end();
    }

    private static void bytes(AtlasEnds x, int tape, int... items) {
        x.tape(tape, 0, items.length);
        for (int i = 0; i < items.length; i++) {
            x.item(tape, i, items[i]);
        }
    }

    private static void promise26Judge() {
        AtlasEnds x = Due.ones(7, 8, 9);
        due.is("judge: nothing", x.judge(0, 0), 100);
        due.is("judge: nothing, -1", x.judge(0, -1), 100);
        bytes(x, 0, 7, 8, 9);
        bytes(x, 1, 1, 7, 8, 5, 7);
        due.is("judge(0, 0)", x.judge(0, 0), -5);
        due.is("judge(0, 1)", x.judge(0, 1), 0);
        due.is("judge(0, 3)", x.judge(0, 3), 100);
        due.is("judge(0, 99)", x.judge(0, 99), 100);
        due.is("judge(0, most)", x.judge(0, Integer.MAX_VALUE), 100);
        due.is("judge(0, -1)", x.judge(0, -1), 100);
        due.is("judge(0, least)", x.judge(0, Integer.MIN_VALUE), 100);
        due.is("judge(1, 0)", x.judge(1, 0), 0);
        due.is("judge(1, 1)", x.judge(1, 1), 2);
        due.is("judge(1, 4)", x.judge(1, 4), 101);
        bytes(x, 2, 7, 8);
        due.is("judge(2, 0)", x.judge(2, 0), 102);
        x.walk(0, 8);
        due.is("judge(2, 0) now", x.judge(2, 0), 0);
        due.is("judge(-1, 0)", x.judge(-1, 0), -1);
        due.is("judge(6, 0)", x.judge(6, 0), -1);
        for (int sort = 1; sort <= 4; sort++) {
            x.tape(3, sort, 5);
            due.is("judge: sort " + sort, x.judge(3, 0), -12);
            due.is("judge: sort " + sort + ", place -1", x.judge(3, -1), -12);
        }
    }

    private static void promise26JudgeNobody() {
        AtlasEnds x = new AtlasEnds();
        x.tape(1, 0, 3);
        x.tape(2, 2, 3);
        due.is("judge: nobody, nothing", x.judge(0, 0), -5);
        due.is("judge: nobody, nothing, -1", x.judge(0, -1), -5);
        due.is("judge: nobody", x.judge(1, 1), -5);
        due.is("judge: nobody, beyond", x.judge(1, 9), -5);
        due.is("judge: nobody, -1", x.judge(1, -1), -5);
        due.is("judge: nobody, another sort", x.judge(2, 0), -12);
        due.is("judge: nobody, tape 6", x.judge(6, 0), -1);
    }

    private static void promise26JudgeSignedBytes() {
        AtlasEnds x = Due.ones(0, 99);
        bytes(x, 0, 256, 99 - 256);
        due.is("judge: the lowest bits", x.judge(0, 0), -5);
    }

    private static void promise27And28ImageAndUndo() {
        AtlasEnds x = new AtlasEnds();
        due.is("undo: no IMAGE", x.undo(), -3);
        x.one(6, 4, 10);
        x.one(0, 0, 12);
        x.row(0, 1, 7);
        x.leaf(30);
        x.hold(0, 1, 0);
        x.see(0, 3, false);
        x.plan(3, 1);
        x.book(0, 10);
        x.pass(1);
        due.is("image()", x.image(), 2);
        changeAll(x);
        due.is("undo()", x.undo(), 2);
        isAsItWas(x);
        changeAll(x);
        due.is("undo() again", x.undo(), 2);
        isAsItWas(x);
        x.one(1, 1, 1);
        due.is("image() anew", x.image(), 3);
        x.one(1, 1, 1);
        due.is("undo() to the newer", x.undo(), 3);
    }

    private static void changeAll(AtlasEnds x) {
        x.row(0, 1, 2);
        x.one(2, 2, 2);
        x.leaf(1);
        x.hold(1, 1, 2);
        x.walk(0, 50);
        x.walk(1, 99);
        x.pass(5);
        x.hold(0, 0, 2);
        x.free(0);
        x.see(-1, 0, true);
        x.see(0, 1, true);
        x.see(0, 2, true);
        x.plan(-1, 0);
        x.plan(0, 0);
        x.plan(0, 0);
        x.book(-1, 0);
        x.book(1, 1);
        x.book(1, 2);
    }

    private static void isAsItWas(AtlasEnds x) {
        due.is("PEOPLE", x.count(0), 2);
        due.is("KIND", x.of(0, 0), 6);
        due.is("v", x.of(0, 1), 4);
        due.is("PLACE of 0", x.of(0, 2), 6);
        due.is("PLACE of 1", x.of(1, 2), 12);
        due.is("LEAVES", x.count(1), 1);
        due.is("LENGTH", x.sheet(0, 0), 30);
        due.is("first", x.sheet(0, 1), 1);
        due.is("second", x.sheet(0, 2), 0);
        due.is("STEP", x.told(0), 1);
        due.is("DROPS", x.told(2), 0);
        due.is("ROW", x.row(0, 1, 7), 7);
        due.is("SEEN", x.count(3), 1);
        // Slack behind three STEPS, but by LENGTHS 1 to 8.
        due.is("SEEN is so", x.sheet(0, 5), 32);
        due.is("PLAN", x.count(4), 1);
        due.is("PLAN's end", x.ends(1), 6);
        due.is("BOOK", x.count(5), 1);
        due.is("BOOK's first", x.looked(), 0);
    }

    private static void promise28WhatIsNoImage() {
        AtlasEnds x = Due.ones(5);
        x.image();
        x.tape(0, 0, 2);
        x.item(0, 1, 5);
        x.act(0, 1, 3);
        Due.feed(x, "bear");
        x.undo();
        due.is("TAPES stay", x.read(0, 1), 5);
        due.is("THE TRACE stays", x.trace(0), 11);
        due.is("how many bodies stays", x.count(7), 2);
        due.is("THE TEXT stays", x.count(6), 4);
        due.is("it goes on", Due.library(x, " 7"), 0);
        x.undo();
        due.is("LIBRARIES stay", x.count(2), 1);
    }

    private static void promise28WhichLibraryHolds() {
        AtlasEnds x = Due.ones(5);
        x.image();
        Due.library(x, "bear 1");
        due.is("the first holds", x.told(1), 1);
        x.undo();
        due.is("none holds", x.told(1), 6);
        due.is("a second", Due.library(x, "bear 2;up 3 p=0"), 1);
        x.image();
        due.is("a third", Due.library(x, "bear 3"), 2);
        due.is("the third holds", x.told(1), 3);
        x.undo();
        due.is("the second holds", x.told(1), 2);
        due.is("DRIFT by the second", x.of(0, 4), 3);
        due.is("a FAULT changes nothing", Due.library(x, "bear x"), -15);
        due.is("the second holds still", x.told(1), 2);
        due.is("a fourth", Due.library(x, "bear 4"), 3);
        due.is("the fourth holds", x.told(1), 4);
    }
}
