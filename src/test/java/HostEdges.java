/** Boundary cases of "Terms" 3 and of promises 26 to 32: judging, the image, acts, counts. */
final class HostEdges extends Edge {

    // ---- the face, an object's calls

    @Of(part = "The public face",
        says = "public static final int NONE = -1, BAD = -2, STATE = -3, FULL = -4; public static final long "
            + "NO = Long.MIN_VALUE;")
    static void constants() {
        is(-1, AtlasEnds.NONE);
        is(-2, AtlasEnds.BAD);
        is(-3, AtlasEnds.STATE);
        is(-4, AtlasEnds.FULL);
        is(Long.MIN_VALUE, AtlasEnds.NO);
    }

    @Of(part = "Terms 3", says = "`NO = Long.MIN_VALUE`: There is no such number.")
    static void noSuchNumber() {
        Atlas a = new Atlas();
        is(Long.MIN_VALUE, a.odds(0, 0, 0));
        is(Long.MIN_VALUE, a.mean(0, 0));
        is(Long.MIN_VALUE, a.read(0, 0));
    }

    @Of(part = "What it is", says = "An object is used for at most 512 calls after it has been made")
    static void fiveHundredAndTwelveCalls() {
        Atlas a = Atlas.ones(0, 99);
        a.leaf(1);
        for (int call = 4; call <= 512; call += 2) {
            if (call == 512) {
                is(254, a.told(2));
            } else {
                is(1, a.hold(0, 0, 1));
                is(call / 2 - 1, a.pass(1));
            }
        }
    }

    // ---- Terms 3: answers

    @Of(part = "Terms 3",
        says = "NOTHING (-11): nothing is there; CAST (-12): another sort or KIND; PLACE (-13): no such place; "
        + "SIZE (-14): a size below 0.")
    static void hostsRefusals() {
        Atlas a = Atlas.ones(5);
        is(-11, a.taken(1, 0));
        is(-11, a.item(0, 0, 0));
        is(-11, a.shift(0, 0, 1, 0, 0));
        is(-12, a.taken(0, 1));
        is(1, a.tape(0, 0, 3));
        is(1, a.tape(1, 1, 3));
        is(-12, a.shift(0, 0, 1, 0, 0));
        is(-12, a.judge(1, 0));
        is(-13, a.item(0, 3, 0));
        is(-13, a.shift(0, 4, 0, 0, 0));
        is(-14, a.tape(0, 0, -1));
    }

    @Of(part = "Terms 3",
        says = "NONE (-1) no such number; BAD (-2) a number is not as told; STATE (-3) as told; FULL (-4)")
    static void answers() {
        Atlas a = Atlas.ones(0, 0, 0, 0, 0, 0);
        is(-1, a.walk(6, 0));
        is(-2, a.walk(0, 100));
        is(-3, a.undo());
        is(-4, a.one(0, 0, 0));
    }

    @Of(part = "Terms 3", says = "the first that a call's words name.")
    static void answersAreTheFirstThatIsNamed() {
        Atlas a = Halls.full();
        is(NONE, a.one(7, 10, 100));
        is(NONE, a.hold(4, 6, 6));
        is(NONE, a.row(6, 4, 10));
        is(NONE, a.on(61, 16));
        is(NONE, a.best(21, 2));
        is(NONE, a.see(4, 13, true));
        is(NONE, a.book(6, 100));
        is(BAD, a.taken(6, 7));
        is(BAD, a.leaf(41));
        is(BAD, a.feed(128));
        is(NONE, a.shift(6, -1, 0, -1, -1));
    }

    @Of(part = "Terms 3", says = "Where it may be below 0, -10001 stands for NONE, -10003 for STATE.")
    static void answersThatMayBeBelowZero() {
        Atlas a = Atlas.ones(5, 5);
        a.leaf(40);
        is(-10001, a.of(2, 4));
        is(-10001, a.of(0, 5));
        is(-10001, a.gap(1));
        is(-10003, a.gap(0));
        a.hold(0, 0, 1);
        is(-40, a.gap(0));
        a.library("down 1 p=0;down 2 p=1");
        is(-1, a.of(0, 4));
        is(-2, a.of(1, 4));
    }

    @Of(part = "Terms 3", says = "What is answered so changes nothing; what is asked changes nothing.")
    static void refusedByAllAtOnceChangesNothing() {
        changesNothing(Halls::full, a -> {
            is(NONE, a.one(7, 10, 100));
            is(BAD, a.leaf(41));
            is(NONE, a.hold(4, 6, 6));
            is(NONE, a.free(4));
            is(STATE, a.free(3));
            is(NONE, a.walk(6, 100));
            is(BAD, a.feed(128));
            is(FULL, a.library());
            is(BAD, a.pass(61));
            is(NONE, a.see(4, 13, true));
            is(NONE, a.plan(4, 6));
            is(NONE, a.book(6, 100));
            is(STATE, a.undo());
            is(NONE, a.tape(6, 5, 61));
            is(NONE, a.item(6, 60, 1));
            is(NONE, a.shift(6, -1, 6, -1, -1));
        });
    }

    @Of(part = "Terms 3", says = "what is asked changes nothing")
    static void askedChangesNothing() {
        changesNothing(Halls::some, a -> {
            for (int i = 0; i <= 7; i++) {
                a.count(i);
                a.told(i);
                a.trace(i);
                a.taken(i, 3);
                a.read(i, i);
                a.judge(i, 0);
                a.judge(0, i);
                a.of(i, 4);
                a.gap(i);
                a.looked();
            }
        });
    }

    // ---- Terms 3: judging

    @Of(part = "Terms 3", says = "TAPES 0 .. 5 hold nothing (at first)")
    static void tapesHoldNothingAtFirst() {
        Atlas a = new Atlas();
        for (int tape = 0; tape <= 5; tape++) {
            is(NO, a.read(tape, 0));
            is(NOTHING, a.item(tape, 0, 1));
            is(NOTHING, a.shift(tape, 0, tape, 0, 0));
            is(1, a.tape(tape, 0, 1));
        }
        for (int tape : outside(0, 5)) {
            is(NONE, a.tape(tape, 0, 1));
        }
    }

    @Of(part = "Terms 3", says = "a row of 0 bytes, 1 shorts, 2 ints, 3 longs, 4 booleans (items 0, 1)")
    static void tapesBySort() {
        long v = 0x0182_8384_8586_8788L;
        long[] due = {(byte) v, (short) v, (int) v, v, 1};
        Atlas a = new Atlas();
        for (int sort = 0; sort <= 4; sort++) {
            a.tapeOf(sort, sort, v, 0, -1);
            is(due[sort], a.read(sort, 0));
            is(0, a.read(sort, 1));
            is(sort == 4 ? 1 : -1, a.read(sort, 2));
        }
    }

    @Of(part = "Terms 3", says = "the first that is otherwise (counted from 0 from that place on)")
    static void judgedTheFirst() {
        Atlas a = Atlas.ones(7, 8, 9);
        a.tapeOf(0, 0, 7, 8, 9, 7, 8, 8, 7, 7, 7, 9, 9, 9);
        int[] due = {NOT_ANY, 0, 0, 2, 0, 0, 1, 1, 1, 0, 0, 0, 100};
        for (int i = 0; i < due.length; i++) {
            is(due[i], a.judge(0, i));
        }
    }

    @Of(part = "Terms 3",
        says = "-5: none, or there are no PEOPLE (wherever the place is, also if the TAPE holds nothing)")
    static void judgedNobody() {
        Atlas a = new Atlas();
        a.tapeOf(1, 0, 1, 2);
        a.tape(2, 0, 0);
        int[] places = {0, 1, 2, 3, -1, LEAST, MOST};
        for (int i : places) {
            is(NOT_ANY, a.judge(0, i));
            is(NOT_ANY, a.judge(1, i));
            is(NOT_ANY, a.judge(2, i));
        }
        a.one(0, 0, 1);
        is(NOT_ANY, a.judge(1, 0));
        is(0, a.judge(1, 1));
    }

    @Of(part = "Terms 3", says = "100 and how many were looked at, if the row ends ahead of that")
    static void judgedARowThatEnds() {
        Atlas a = Atlas.ones(1, 2, 3, 4, 5, 6);
        for (int n = 0; n <= 5; n++) {
            a.tape(0, 0, n);
            for (int i = 0; i < n; i++) {
                a.item(0, i, i + 1);
            }
            is(100 + n, a.judge(0, 0));
            is(100, a.judge(0, n));
        }
        a.tapeOf(0, 0, 1, 2, 3, 4, 5, 6);
        is(NOT_ANY, a.judge(0, 0));
        a.item(0, 5, 7);
        is(5, a.judge(0, 0));
        a.tapeOf(0, 0, 1, 2, 4);
        is(2, a.judge(0, 0));
    }

    @Of(part = "Terms 3", says = "(or the place is below 0, or the TAPE holds nothing)")
    static void judgedFromOutside() {
        Atlas a = Atlas.ones(1, 2);
        a.tapeOf(0, 0, 1, 2, 1);
        is(101, a.judge(0, 2));
        int[] places = {-1, 3, 4, 60, LEAST, MOST};
        for (int i : places) {
            is(100, a.judge(0, i));
            is(100, a.judge(1, i));
        }
        is(100, a.judge(1, 0));
        a.tape(0, -1, 0);
        is(100, a.judge(0, 0));
    }

    // ---- 26: judge

    @Of(part = "Promise 26", says = "JUDGED from place i of a TAPE on.")
    static void judgeFromEachPlace() {
        Atlas a = Atlas.ones(0, 99);
        a.tape(5, 0, 60);
        a.item(5, 59, 99);
        is(NOT_ANY, a.judge(5, 58));
        is(0, a.judge(5, 59));
        is(100, a.judge(5, 60));
        is(1, a.judge(5, 57));
        a.item(5, 1, 99);
        is(NOT_ANY, a.judge(5, 0));
        is(100, a.judge(5, -1));
    }

    @Of(part = "Promise 26", says = "NONE: tape")
    static void judgeNoTape() {
        Atlas a = Halls.some();
        for (int tape : outside(0, 5)) {
            is(NONE, a.judge(tape, 0));
            is(NONE, new Atlas().judge(tape, 0));
        }
        is(NOT_ANY, a.judge(0, 0));
        is(100, a.judge(5, 0));
    }

    @Of(part = "Promise 26", says = "CAST: it is no row of bytes")
    static void judgeNoBytes() {
        Atlas a = new Atlas();
        for (int sort = 1; sort <= 4; sort++) {
            a.tape(0, sort, 6);
            is(CAST, a.judge(0, 0));
            is(CAST, a.judge(0, -1));
            is(CAST, a.judge(0, 9));
            a.tape(0, sort, 0);
            is(CAST, a.judge(0, 0));
        }
        a.one(0, 0, 0);
        for (int sort = 1; sort <= 4; sort++) {
            a.tape(0, sort, 6);
            is(CAST, a.judge(0, 0));
            is(CAST, a.judge(0, LEAST));
        }
        a.tape(0, 0, 6);
        is(NOT_ANY, a.judge(0, 0));
    }

    @Of(part = "Promise 26", says = "NONE: tape; CAST: it is no row of bytes.")
    static void judgeRefusedChangesNothing() {
        changesNothing(Halls::some, a -> {
            is(NONE, a.judge(6, 0));
            is(CAST, a.judge(1, 0));
            is(CAST, a.judge(2, -1));
            is(100, a.judge(3, 0));
        });
    }

    // ---- 27, 28: image, undo

    @Of(part = "Promise 27", says = "THE IMAGE is taken: how many PEOPLE there are.")
    static void imageTellsHowMany() {
        Atlas a = new Atlas();
        for (int p = 0; p <= 6; p++) {
            is(p, a.image());
            a.one(6, 9, 99);
        }
        is(6, a.undo());
    }

    @Of(part = "Promise 27", says = "THE IMAGE is taken")
    static void imageAndUndoAtOnceChangeNothing() {
        changesNothing(HostEdges::fullAndAnImage, a -> is(6, a.undo()));
    }

    private static Atlas fullAndAnImage() {
        Atlas a = Halls.full();
        a.image();
        return a;
    }

    @Of(part = "Promise 28", says = "All is as THE IMAGE: how many PEOPLE.")
    static void undoTellsHowMany() {
        Atlas a = new Atlas();
        a.image();
        for (int p = 0; p < 6; p++) {
            a.one(6, 9, 99);
            a.row(p, 0, 9);
        }
        for (int leaf = 0; leaf < 4; leaf++) {
            a.leaf(9);
            a.hold(leaf, leaf, leaf + 1);
        }
        is(0, a.undo());
        is(0, a.count(0));
        is(0, a.count(1));
        is(0, a.told(4));
        is(0, a.one(6, 0, 0));
        is(-4, a.of(0, 4));
        is(0, a.of(0, 3));
        is(0, a.leaf(3));
        is(NOT_ANY, a.sheet(0, 1));
        is(0, a.undo());
        is(0, a.count(0));
    }

    @Of(part = "Promise 28", says = "All is as THE IMAGE")
    static void undoIsOfTheLatestImage() {
        Atlas a = Atlas.ones(5);
        a.image();
        a.walk(0, 6);
        a.image();
        a.walk(0, 7);
        is(1, a.undo());
        is(6, a.of(0, 2));
        a.walk(0, 8);
        is(1, a.undo());
        is(6, a.of(0, 2));
    }

    @Of(part = "Promise 28", says = "STATE: there is none")
    static void undoWithoutAnImage() {
        Atlas a = Atlas.ones(5);
        is(STATE, a.undo());
        is(1, a.count(0));
        a.image();
        is(1, a.undo());
        is(1, a.undo());
    }

    @Of(part = "Promise 28", says = "STATE: there is none")
    static void undoRefusedChangesNothing() {
        changesNothing(Halls::full, a -> is(STATE, a.undo()));
        changesNothing(Atlas::new, a -> is(STATE, a.undo()));
    }

    // ---- 29, 30: act, trace

    @Of(part = "Promise 29", says = "An ACT (0 bows, 1 tugs, 2 tells) of a PERSON with x.")
    static void actOfEach() {
        Atlas a = new Atlas();
        for (int p = 0; p < 6; p++) {
            a.one(0, 9, 0);
        }
        is(10, a.act(0, 0, 10));
        is(15, a.act(5, 0, 10));
        is(6, a.act(5, 1, 10));
        is(12, a.act(5, 2, 10));
        is(LEAST + 4, a.act(5, 0, MOST));
        is(LEAST, a.act(0, 0, LEAST));
    }

    @Of(part = "Promise 29", says = "0, and no TRACE then: no such PERSON, act.")
    static void actOfNobodyOrNoAct() {
        Atlas a = Halls.some();
        int[][] wrong = {{-1, 0}, {4, 0}, {LEAST, 0}, {MOST, 0}, {0, -1}, {0, 3}, {0, LEAST}, {0, MOST}, {4, 3}, {-1, -1}};
        for (int[] w : wrong) {
            a.act(0, 2, 5);
            is(12, a.count(7));
            is(40, a.trace(0));
            is(0, a.act(w[0], w[1], 5));
            is(0, a.count(7));
            is(NONE, a.trace(0));
            is(NONE, a.trace(11));
        }
    }

    @Of(part = "Promise 30", says = "THE TRACE's i-th body. NONE.")
    static void traceFromTheFirstToTheLast() {
        Atlas a = new Atlas();
        is(NONE, a.trace(0));
        a.one(6, 0, 0);
        a.act(0, 2, 0);
        int[] due = {40, 12, 70, 11, 71, 10, 10, 70, 11, 71, 10, 10};
        for (int i = 0; i < due.length; i++) {
            is(due[i], a.trace(i));
        }
        for (int i : outside(0, 11)) {
            is(NONE, a.trace(i));
        }
        is(NONE, a.trace(19));
        is(NONE, a.trace(20));
        a.act(0, 0, 0);
        for (int i : outside(0, 1)) {
            is(NONE, a.trace(i));
        }
        is(10, a.trace(1));
    }

    @Of(part = "Promise 30", says = "NONE.")
    static void traceChangesNothing() {
        changesNothing(Halls::some, a -> {
            for (int i = -1; i <= 21; i++) {
                a.trace(i);
            }
        });
    }

    // ---- 31: taken

    @Of(part = "Promise 31", says = "A PERSON taken for one of KIND k (0 .. 6), or one under that: its KIND.")
    static void takenForEachKind() {
        int[] above = {-1, 0, 0, 0, 1, 2, 3};
        for (int kind = 0; kind <= 6; kind++) {
            Atlas a = new Atlas();
            a.one(kind, 0, 0);
            for (int k = 0; k <= 6; k++) {
                boolean isUnder = k == 0 || k == kind || k == above[kind];
                is(isUnder ? kind : CAST, a.taken(0, k));
            }
        }
    }

    @Of(part = "Promise 31", says = "BAD: k")
    static void takenForABadKind() {
        Atlas a = Halls.some();
        for (int k : outside(0, 6)) {
            is(BAD, a.taken(0, k));
        }
        is(6, a.taken(0, 6));
        is(6, a.taken(0, 0));
    }

    @Of(part = "Promise 31", says = "NOTHING: no such PERSON")
    static void takenNobody() {
        Atlas a = Halls.some();
        for (int person : outside(0, 3)) {
            is(NOTHING, a.taken(person, 0));
            is(NOTHING, a.taken(person, 6));
        }
        is(4, a.taken(3, 0));
    }

    @Of(part = "Promise 31", says = "CAST.")
    static void takenForAnother() {
        Atlas a = Halls.some();
        is(CAST, a.taken(0, 1));
        is(CAST, a.taken(1, 4));
        is(CAST, a.taken(3, 6));
        is(4, a.taken(3, 1));
    }

    @Of(part = "Promise 31", says = "BAD: k; NOTHING: no such PERSON; CAST.")
    static void takenRefusesInOrder() {
        Atlas a = Halls.some();
        is(BAD, a.taken(4, 7));
        is(BAD, a.taken(-1, -1));
        is(BAD, a.taken(LEAST, MOST));
    }

    @Of(part = "Promise 31", says = "BAD: k; NOTHING: no such PERSON; CAST.")
    static void takenChangesNothing() {
        changesNothing(Halls::some, a -> {
            is(BAD, a.taken(0, 7));
            is(NOTHING, a.taken(4, 0));
            is(CAST, a.taken(0, 1));
            is(6, a.taken(0, 3));
        });
    }

    // ---- 32: count

    @Of(part = "Promise 32",
        says = "How many: 0 PEOPLE, 1 LEAVES, 2 LIBRARIES, 3 SEEN, 4 of the PLAN, 5 of the BOOK, 6 bytes of THE TEXT, "
        + "7 bodies that ran in the latest act() (all, kept or not).")
    static void countWhat() {
        Atlas none = new Atlas();
        for (int what = 0; what <= 7; what++) {
            is(0, none.count(what));
        }
        Atlas a = Halls.some();
        int[] some = {4, 3, 1, 2, 2, 2, 8, 4};
        for (int what = 0; what <= 7; what++) {
            is(some[what], a.count(what));
        }
        Atlas b = Halls.full();
        b.act(0, 2, 0);
        int[] full = {6, 4, 6, 5, 10, 8, 100, 12};
        for (int what = 0; what <= 7; what++) {
            is(full[what], b.count(what));
        }
    }

    @Of(part = "Promise 32", says = "BAD.")
    static void countOfNoWhat() {
        Atlas a = Halls.some();
        for (int what : outside(0, 7)) {
            is(BAD, a.count(what));
        }
    }

    @Of(part = "Promise 32", says = "BAD.")
    static void countChangesNothing() {
        changesNothing(Halls::some, a -> {
            for (int what = -1; what <= 8; what++) {
                a.count(what);
            }
        });
    }
}
