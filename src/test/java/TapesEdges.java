/** Boundary cases of promises 33 to 36: tape, item, read, shift. */
final class TapesEdges extends Edge {
    private static final int BYTES = 0, SHORTS = 1, INTS = 2, LONGS = 3, BOOLEANS = 4;

    // ---- 33: tape

    @Of(part = "Promise 33", says = "A TAPE becomes a row of n (0 .. 60) of a sort, all 0")
    static void tapeFromNoneToSixty() {
        Atlas a = new Atlas();
        for (int sort = 0; sort <= 4; sort++) {
            is(1, a.tape(sort, sort, 60));
            is(0, a.read(sort, 0));
            is(0, a.read(sort, 59));
            is(NO, a.read(sort, 60));
            is(1, a.item(sort, 0, 1));
            is(1, a.item(sort, 59, 1));
            is(PLACE, a.item(sort, 60, 1));
            is(1, a.tape(sort, sort, 60));
            is(0, a.read(sort, 0));
            is(0, a.read(sort, 59));
            is(1, a.tape(sort, sort, 1));
            is(0, a.read(sort, 0));
            is(NO, a.read(sort, 1));
            is(1, a.tape(sort, sort, 0));
            is(NO, a.read(sort, 0));
            is(PLACE, a.item(sort, 0, 1));
        }
    }

    @Of(part = "Promise 33", says = "all 0")
    static void tapeIsAllZeroAgain() {
        Atlas a = new Atlas();
        a.tape(0, LONGS, 60);
        for (int i = 0; i < 60; i++) {
            a.item(0, i, -1);
        }
        a.tape(0, LONGS, 2);
        a.tape(0, BYTES, 60);
        for (int i = 0; i < 60; i++) {
            is(0, a.read(0, i));
        }
    }

    @Of(part = "Promise 33", says = "or holds nothing (sort -1: n does not matter): 1.")
    static void tapeHoldsNothing() {
        int[] any = {0, 60, 61, -1, LEAST, MOST};
        for (int n : any) {
            Atlas a = Halls.some();
            is(1, a.tape(0, -1, n));
            is(NO, a.read(0, 0));
            is(NOTHING, a.item(0, 0, 1));
            is(100, a.judge(0, 0));
            is(1, a.tape(0, -1, n));
        }
    }

    @Of(part = "Promise 33", says = "NONE: tape")
    static void tapeNone() {
        Atlas a = new Atlas();
        for (int tape : outside(0, 5)) {
            is(NONE, a.tape(tape, 0, 5));
            is(NONE, a.tape(tape, -1, 0));
        }
        is(1, a.tape(0, 0, 5));
        is(1, a.tape(5, 0, 5));
    }

    @Of(part = "Promise 33", says = "BAD: sort")
    static void tapeOfABadSort() {
        Atlas a = new Atlas();
        int[] sorts = {-2, 5, LEAST, MOST};
        for (int sort : sorts) {
            is(BAD, a.tape(0, sort, 5));
        }
        is(NOTHING, a.item(0, 0, 0));
        is(1, a.tape(0, 0, 5));
        is(1, a.tape(0, 4, 5));
    }

    @Of(part = "Promise 33", says = "n above 60")
    static void tapeAboveSixty() {
        Atlas a = new Atlas();
        for (int sort = 0; sort <= 4; sort++) {
            is(BAD, a.tape(0, sort, 61));
            is(BAD, a.tape(0, sort, MOST));
            is(1, a.tape(0, sort, 60));
        }
    }

    @Of(part = "Promise 33", says = "SIZE.")
    static void tapeBelowZero() {
        Atlas a = new Atlas();
        for (int sort = 0; sort <= 4; sort++) {
            is(SIZE, a.tape(0, sort, -1));
            is(SIZE, a.tape(0, sort, LEAST));
            is(1, a.tape(0, sort, 0));
        }
    }

    @Of(part = "Promise 33", says = "NONE: tape; BAD: sort, n above 60; SIZE.")
    static void tapeRefusesInOrder() {
        Atlas a = new Atlas();
        is(NONE, a.tape(6, 5, 61));
        is(NONE, a.tape(-1, 0, -1));
        is(NONE, a.tape(6, -2, 5));
        is(NONE, a.tape(6, 0, 61));
        is(BAD, a.tape(0, 5, -1));
        is(BAD, a.tape(0, -2, LEAST));
        is(BAD, a.tape(0, 5, 61));
    }

    @Of(part = "Promise 33", says = "NONE: tape; BAD: sort, n above 60; SIZE.")
    static void tapeRefusedChangesNothing() {
        changesNothing(Halls::some, a -> {
            is(NONE, a.tape(6, 0, 5));
            is(NONE, a.tape(-1, -1, 5));
            is(BAD, a.tape(0, 5, 5));
            is(BAD, a.tape(1, -2, 5));
            is(BAD, a.tape(2, 0, 61));
            is(SIZE, a.tape(0, 1, -1));
            is(SIZE, a.tape(5, 1, -1));
        });
    }

    // ---- 34, 35: item, read

    private static void item(int sort, long v, long due) {
        Atlas a = new Atlas();
        a.tape(3, sort, 3);
        is(1, a.item(3, 1, v));
        is(due, a.read(3, 1));
        is(0, a.read(3, 0));
        is(0, a.read(3, 2));
    }

    @Of(part = "Promise 34", says = "Item i of a TAPE becomes v (its lowest bits, as many as an item has;")
    static void itemsLowestBits() {
        item(BYTES, 127, 127);
        item(BYTES, 128, -128);
        item(BYTES, -128, -128);
        item(BYTES, -129, 127);
        item(BYTES, 256, 0);
        item(BYTES, Long.MAX_VALUE, -1);
        item(BYTES, Long.MIN_VALUE, 0);
        item(SHORTS, 32767, 32767);
        item(SHORTS, 32768, -32768);
        item(SHORTS, -32768, -32768);
        item(SHORTS, -32769, 32767);
        item(SHORTS, 65536, 0);
        item(SHORTS, Long.MAX_VALUE, -1);
        item(SHORTS, Long.MIN_VALUE, 0);
        item(INTS, MOST, MOST);
        item(INTS, MOST + 1L, LEAST);
        item(INTS, LEAST, LEAST);
        item(INTS, LEAST - 1L, MOST);
        item(INTS, 1L << 32, 0);
        item(INTS, Long.MAX_VALUE, -1);
        item(INTS, Long.MIN_VALUE, 0);
        item(LONGS, Long.MAX_VALUE, Long.MAX_VALUE);
        item(LONGS, Long.MIN_VALUE, Long.MIN_VALUE);
        item(LONGS, 1L << 32, 1L << 32);
        item(LONGS, -1, -1);
    }

    @Of(part = "Promise 34", says = "booleans: whether v is not 0")
    static void itemsBooleans() {
        item(BOOLEANS, 0, 0);
        item(BOOLEANS, 1, 1);
        item(BOOLEANS, -1, 1);
        item(BOOLEANS, 2, 1);
        item(BOOLEANS, 256, 1);
        item(BOOLEANS, 1L << 32, 1);
        item(BOOLEANS, Long.MIN_VALUE, 1);
        item(BOOLEANS, Long.MAX_VALUE, 1);
        Atlas a = new Atlas();
        a.tapeOf(0, BOOLEANS, 5);
        is(1, a.item(0, 0, 0));
        is(0, a.read(0, 0));
    }

    @Of(part = "Promise 34", says = ": 1.")
    static void itemOfEachPlace() {
        Atlas a = new Atlas();
        a.tape(0, INTS, 60);
        for (int i = 0; i < 60; i++) {
            is(1, a.item(0, i, i + 1));
        }
        for (int i = 0; i < 60; i++) {
            is(i + 1, a.read(0, i));
        }
    }

    @Of(part = "Promise 34", says = "NONE")
    static void itemOfNoTape() {
        Atlas a = new Atlas();
        for (int tape = 0; tape <= 5; tape++) {
            a.tape(tape, 0, 1);
        }
        for (int tape : outside(0, 5)) {
            is(NONE, a.item(tape, 0, 1));
        }
        is(1, a.item(0, 0, 1));
        is(1, a.item(5, 0, 1));
    }

    @Of(part = "Promise 34", says = "NOTHING")
    static void itemOfNothing() {
        Atlas a = new Atlas();
        is(NOTHING, a.item(0, 0, 1));
        a.tape(0, 0, 1);
        is(1, a.item(0, 0, 1));
        a.tape(0, -1, 1);
        is(NOTHING, a.item(0, 0, 1));
        a.tape(0, 0, 0);
        is(PLACE, a.item(0, 0, 1));
    }

    @Of(part = "Promise 34", says = "PLACE.")
    static void itemOfNoPlace() {
        Atlas a = Halls.some();
        for (int i : outside(0, 3)) {
            is(PLACE, a.item(0, i, 1));
        }
        for (int i : outside(0, 2)) {
            is(PLACE, a.item(1, i, 1));
        }
        is(1, a.item(0, 0, 1));
        is(1, a.item(0, 3, 1));
    }

    @Of(part = "Promise 34", says = "NONE; NOTHING; PLACE.")
    static void itemRefusesInOrder() {
        Atlas a = Halls.some();
        is(NONE, a.item(6, 60, 1));
        is(NONE, a.item(-1, -1, 1));
        is(NOTHING, a.item(5, -1, 1));
        is(NOTHING, a.item(5, 60, 1));
        is(NOTHING, a.item(5, LEAST, 1));
    }

    @Of(part = "Promise 34", says = "NONE; NOTHING; PLACE.")
    static void itemRefusedChangesNothing() {
        changesNothing(Halls::some, a -> {
            is(NONE, a.item(6, 0, 77));
            is(NOTHING, a.item(5, 0, 77));
            is(PLACE, a.item(0, 4, 77));
            is(PLACE, a.item(0, -1, 77));
        });
        // What is beyond the end of a row doesn't come up in a longer one.
        Atlas b = new Atlas();
        b.tape(0, 0, 1);
        is(PLACE, b.item(0, 1, 77));
        b.tape(0, 0, 2);
        is(0, b.read(0, 1));
    }

    @Of(part = "Promise 35", says = "Item i of a TAPE.")
    static void readOfEachPlace() {
        Atlas a = new Atlas();
        a.tapeOf(0, LONGS, Long.MAX_VALUE, 0, Long.MIN_VALUE + 1);
        a.tapeOf(5, BYTES, 1, 2);
        is(Long.MAX_VALUE, a.read(0, 0));
        is(0, a.read(0, 1));
        is(Long.MIN_VALUE + 1, a.read(0, 2));
        is(1, a.read(5, 0));
        is(2, a.read(5, 1));
    }

    @Of(part = "Promise 35", says = "NO: no such TAPE, nothing there, no such place.")
    static void readNo() {
        Atlas a = Halls.some();
        for (int tape : outside(0, 5)) {
            is(NO, a.read(tape, 0));
        }
        is(NO, a.read(5, 0));
        is(NO, a.read(5, -1));
        for (int i : outside(0, 3)) {
            is(NO, a.read(0, i));
        }
        is(52, a.read(0, 3));
        a.tape(0, -1, 0);
        is(NO, a.read(0, 0));
        a.tape(0, 3, 0);
        is(NO, a.read(0, 0));
    }

    @Of(part = "Promise 35", says = "NO: no such TAPE, nothing there, no such place.")
    static void readChangesNothing() {
        changesNothing(Halls::some, a -> {
            for (int tape = -1; tape <= 6; tape++) {
                a.read(tape, -1);
                a.read(tape, 0);
                a.read(tape, 3);
                a.read(tape, 4);
            }
        });
    }

    // ---- 36: shift

    private static void isRow(Atlas a, int tape, long... due) {
        for (int i = 0; i < due.length; i++) {
            is(due[i], a.read(tape, i));
        }
        is(NO, a.read(tape, due.length));
    }

    @Of(part = "Promise 36", says = "n items of a TAPE from i on come to another one")
    static void shiftToAnother() {
        Atlas a = new Atlas();
        a.tapeOf(0, INTS, 1, 2, 3, 4);
        a.tapeOf(5, INTS, 10, 20, 30);
        is(1, a.shift(0, 3, 5, 0, 1));
        isRow(a, 5, 4, 20, 30);
        is(2, a.shift(0, 0, 5, 1, 2));
        isRow(a, 5, 4, 1, 2);
        is(3, a.shift(5, 0, 0, 1, 3));
        isRow(a, 0, 1, 4, 1, 2);
        isRow(a, 5, 4, 1, 2);
        is(0, a.shift(0, 0, 5, 0, 0));
        isRow(a, 5, 4, 1, 2);
    }

    @Of(part = "Promise 36", says = "n items of a TAPE from i on come to another one")
    static void shiftOfEachSort() {
        long[][] items = {
            {-128, 127, 1}, {-32768, 32767, 1}, {LEAST, MOST, 1}, {Long.MIN_VALUE + 1, Long.MAX_VALUE, 1}, {1, 0, 1}};
        for (int sort = 0; sort <= 4; sort++) {
            Atlas a = new Atlas();
            a.tapeOf(0, sort, items[sort]);
            a.tape(1, sort, 60);
            is(3, a.shift(0, 0, 1, 57, 3));
            for (int i = 0; i < 3; i++) {
                is(items[sort][i], a.read(1, 57 + i));
            }
            is(60, a.shift(1, 0, 1, 0, 60));
            is(0, a.read(1, 56));
        }
    }

    @Of(part = "Promise 36", says = "(or the same) from j on, as they all were before: n.")
    static void shiftOnItself() {
        Atlas a = new Atlas();
        a.tapeOf(0, INTS, 1, 2, 3, 4, 5);
        is(4, a.shift(0, 0, 0, 1, 4));
        isRow(a, 0, 1, 1, 2, 3, 4);
        is(4, a.shift(0, 1, 0, 0, 4));
        isRow(a, 0, 1, 2, 3, 4, 4);
        is(2, a.shift(0, 0, 0, 1, 2));
        isRow(a, 0, 1, 1, 2, 4, 4);
        is(5, a.shift(0, 0, 0, 0, 5));
        isRow(a, 0, 1, 1, 2, 4, 4);
    }

    @Of(part = "Promise 36", says = "NONE: tapes")
    static void shiftOfNoTape() {
        Atlas a = new Atlas();
        for (int tape = 0; tape <= 5; tape++) {
            a.tape(tape, 0, 3);
        }
        for (int tape : outside(0, 5)) {
            is(NONE, a.shift(tape, 0, 0, 0, 1));
            is(NONE, a.shift(0, 0, tape, 0, 1));
            is(NONE, a.shift(tape, 0, tape, 0, 1));
        }
        is(1, a.shift(0, 0, 5, 0, 1));
        is(1, a.shift(5, 0, 0, 0, 1));
    }

    @Of(part = "Promise 36", says = "NOTHING")
    static void shiftOfNothing() {
        Atlas a = new Atlas();
        a.tape(0, 0, 3);
        is(NOTHING, a.shift(0, 0, 1, 0, 1));
        is(NOTHING, a.shift(1, 0, 0, 0, 1));
        is(NOTHING, a.shift(1, 0, 1, 0, 1));
        is(NOTHING, a.shift(1, 0, 2, 0, 0));
        a.tape(1, 0, 0);
        is(0, a.shift(0, 0, 1, 0, 0));
        is(0, a.shift(1, 0, 0, 0, 0));
    }

    @Of(part = "Promise 36", says = "CAST: of unlike sorts")
    static void shiftOfUnlikeSorts() {
        Atlas a = new Atlas();
        for (int sort = 0; sort <= 4; sort++) {
            a.tape(sort, sort, 3);
        }
        for (int sort = 0; sort <= 4; sort++) {
            for (int other = 0; other <= 4; other++) {
                is(sort == other ? 2 : CAST, a.shift(sort, 0, other, 0, 2));
                is(sort == other ? 0 : CAST, a.shift(sort, 0, other, 0, 0));
            }
        }
    }

    @Of(part = "Promise 36", says = "PLACE: n, i or j is below 0")
    static void shiftBelowZero() {
        Atlas a = new Atlas();
        a.tape(0, 0, 3);
        a.tape(1, 0, 3);
        int[] below = {-1, LEAST, -3};
        for (int n : below) {
            is(PLACE, a.shift(0, 1, 1, 1, n));
            is(PLACE, a.shift(0, n, 1, 0, 1));
            is(PLACE, a.shift(0, 0, 1, n, 1));
            is(PLACE, a.shift(0, n, 1, 0, 0));
            is(PLACE, a.shift(0, 0, 1, n, 0));
            is(PLACE, a.shift(0, 3, 0, 3, n));
            is(PLACE, a.shift(0, n, 0, n, n));
        }
        is(0, a.shift(0, 0, 1, 0, 0));
    }

    @Of(part = "Promise 36", says = "or beyond either's end")
    static void shiftBeyondTheEnd() {
        Atlas a = new Atlas();
        a.tape(0, 0, 4);
        a.tape(1, 0, 3);
        is(3, a.shift(0, 1, 1, 0, 3));
        is(PLACE, a.shift(0, 2, 1, 0, 3));
        is(PLACE, a.shift(0, 0, 1, 1, 3));
        is(PLACE, a.shift(0, 0, 1, 0, 4));
        is(PLACE, a.shift(1, 0, 0, 0, 4));
        is(PLACE, a.shift(0, 1, 0, 0, 4));
        is(PLACE, a.shift(0, 0, 0, 1, 4));
        is(4, a.shift(0, 0, 0, 0, 4));
        is(0, a.shift(0, 4, 1, 3, 0));
        is(PLACE, a.shift(0, 5, 1, 3, 0));
        is(PLACE, a.shift(0, 4, 1, 4, 0));
        is(1, a.shift(0, 3, 1, 2, 1));
        is(PLACE, a.shift(0, 4, 1, 2, 1));
        is(PLACE, a.shift(0, 3, 1, 3, 1));
        is(PLACE, a.shift(0, MOST, 1, 0, 1));
        is(PLACE, a.shift(0, 0, 1, MOST, 1));
        is(PLACE, a.shift(0, 0, 1, 0, MOST));
        is(PLACE, a.shift(0, 1, 1, 1, MOST));
        is(PLACE, a.shift(0, MOST, 1, MOST, MOST));
        is(PLACE, a.shift(0, MOST, 1, 0, 0));
    }

    @Of(part = "Promise 36",
        says = "NONE: tapes; NOTHING; CAST: of unlike sorts; PLACE: n, i or j is below 0, or beyond either's end")
    static void shiftRefusesInOrder() {
        Atlas a = new Atlas();
        a.tape(0, 0, 3);
        a.tape(1, 1, 3);
        is(NONE, a.shift(6, 0, 2, 0, 1));
        is(NONE, a.shift(2, 0, -1, 0, 1));
        is(NONE, a.shift(0, -1, 6, -1, -1));
        is(NOTHING, a.shift(2, -1, 0, 0, 1));
        is(NOTHING, a.shift(0, 0, 2, 9, 1));
        is(NOTHING, a.shift(1, 0, 2, 0, -1));
        is(CAST, a.shift(0, -1, 1, 0, 1));
        is(CAST, a.shift(0, 0, 1, 4, 1));
        is(CAST, a.shift(1, 0, 0, 0, -1));
        is(CAST, a.shift(1, 0, 0, 0, 4));
    }

    @Of(part = "Promise 36",
        says = "NONE: tapes; NOTHING; CAST: of unlike sorts; PLACE: n, i or j is below 0, or beyond either's end")
    static void shiftRefusedChangesNothing() {
        changesNothing(TapesEdges::alikeTapes, a -> {
            is(NONE, a.shift(0, 0, 6, 0, 2));
            is(NONE, a.shift(6, 0, 0, 0, 2));
            is(NOTHING, a.shift(0, 0, 5, 0, 2));
            is(NOTHING, a.shift(5, 0, 0, 0, 2));
            is(CAST, a.shift(0, 0, 1, 0, 2));
            is(CAST, a.shift(1, 0, 0, 0, 2));
            is(PLACE, a.shift(0, 0, 3, 0, 3));
            is(PLACE, a.shift(0, 2, 3, 0, 3));
            is(PLACE, a.shift(0, 1, 0, 2, 3));
            is(PLACE, a.shift(0, 0, 3, 1, -1));
            is(PLACE, a.shift(0, -1, 3, 0, 2));
            is(PLACE, a.shift(0, 0, 3, -1, 2));
        });
    }

    /** Halls.some(), and another row of bytes, a shorter one. */
    private static Atlas alikeTapes() {
        Atlas a = Halls.some();
        a.tapeOf(3, 0, 77, 78);
        return a;
    }
}
