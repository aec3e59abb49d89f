/** Promises 33 to 36: tape, item, read, shift. */
public final class TapesTest {
    private static final Due due = new Due("TapesTest");

    public static void main(String[] args) {
        promise33Tape();
        promise34ItemAndPromise35Read();
        promise34ItemRefusals();
        promise35ReadRefusals();
        promise36Shift();
        promise36ShiftOnItself();
        promise36ShiftRefusals();
        due.end();
    }

    private static void promise33Tape() {
        AtlasEnds x = new AtlasEnds();
        due.is("tape(-1, 0, 1)", x.tape(-1, 0, 1), -1);
        due.is("tape(6, 9, -1)", x.tape(6, 9, -1), -1);
        due.is("tape(0, -2, 1)", x.tape(0, -2, 1), -2);
        due.is("tape(0, 5, -1)", x.tape(0, 5, -1), -2);
        due.is("tape(0, 0, 61)", x.tape(0, 0, 61), -2);
        due.is("tape(0, 0, -1)", x.tape(0, 0, -1), -14);
        due.is("tape(0, 4, least)", x.tape(0, 4, Integer.MIN_VALUE), -14);
        due.is("tape: nothing yet", x.item(0, 0, 0), -11);
        due.is("tape(0, 0, 0)", x.tape(0, 0, 0), 1);
        due.is("tape: a row of none", x.item(0, 0, 0), -13);
        due.is("tape(5, 3, 60)", x.tape(5, 3, 60), 1);
        due.is("tape: the last", x.item(5, 59, 8), 1);
        due.is("tape: the first", x.item(5, 0, 7), 1);
        due.is("tape: refused, so it stays", x.tape(5, 3, 61), -2);
        due.is("tape: it stays", x.read(5, 59), 8);
        due.is("tape(5, 2, 60)", x.tape(5, 2, 60), 1);
        due.is("tape: all 0", x.read(5, 59), 0);
        due.is("tape: all 0, the first", x.read(5, 0), 0);
        due.is("tape(5, -1, 99)", x.tape(5, -1, 99), 1);
        due.is("tape: nothing", x.read(5, 0), AtlasEnds.NO);
        due.is("tape(5, -1, -9)", x.tape(5, -1, -9), 1);
        due.is("tape(6, -1, 0)", x.tape(6, -1, 0), -1);
    }

    private static void item(AtlasEnds x, int tape, long v, long want) {
        due.is("item(" + tape + ", 1, " + v + ")", x.item(tape, 1, v), 1);
        due.is("read(" + tape + ", 1) of " + v, x.read(tape, 1), want);
        due.is("read(" + tape + ", 0) of " + v, x.read(tape, 0), 0);
    }

    private static void promise34ItemAndPromise35Read() {
        AtlasEnds x = new AtlasEnds();
        for (int sort = 0; sort <= 4; sort++) {
            x.tape(sort, sort, 2);
        }
        item(x, 0, 127, 127);
        item(x, 0, 128, -128);
        item(x, 0, -129, 127);
        item(x, 0, 0x1234567890L, 0x90 - 256);
        item(x, 1, 32767, 32767);
        item(x, 1, 32768, -32768);
        item(x, 1, 70000, 4464);
        item(x, 2, 0x80000000L, Integer.MIN_VALUE);
        item(x, 2, 0x100000001L, 1);
        item(x, 3, Long.MAX_VALUE, Long.MAX_VALUE);
        item(x, 3, Long.MIN_VALUE + 1, Long.MIN_VALUE + 1);
        item(x, 4, 0, 0);
        item(x, 4, 256, 1);
        item(x, 4, Long.MIN_VALUE, 1);
        item(x, 4, 0, 0);
    }

    private static void promise34ItemRefusals() {
        AtlasEnds x = new AtlasEnds();
        x.tape(1, 1, 3);
        due.is("item(-1, 0, 0)", x.item(-1, 0, 0), -1);
        due.is("item(6, 0, 0)", x.item(6, 0, 0), -1);
        due.is("item(0, -1, 0)", x.item(0, -1, 0), -11);
        due.is("item(1, -1, 0)", x.item(1, -1, 0), -13);
        due.is("item(1, 3, 0)", x.item(1, 3, 0), -13);
        due.is("item(1, most, 0)", x.item(1, Integer.MAX_VALUE, 0), -13);
        due.is("item(1, 2, 9)", x.item(1, 2, 9), 1);
    }

    private static void promise35ReadRefusals() {
        AtlasEnds x = new AtlasEnds();
        x.tape(1, 1, 3);
        due.is("read(-1, 0)", x.read(-1, 0), AtlasEnds.NO);
        due.is("read(6, 0)", x.read(6, 0), AtlasEnds.NO);
        due.is("read(0, 0)", x.read(0, 0), AtlasEnds.NO);
        due.is("read(1, -1)", x.read(1, -1), AtlasEnds.NO);
        due.is("read(1, 3)", x.read(1, 3), AtlasEnds.NO);
        due.is("read(1, least)", x.read(1, Integer.MIN_VALUE), AtlasEnds.NO);
        due.is("read(1, 2)", x.read(1, 2), 0);
    }

    private static void row(AtlasEnds x, int tape, int... items) {
        x.tape(tape, 2, items.length);
        for (int i = 0; i < items.length; i++) {
            x.item(tape, i, items[i]);
        }
    }

    private static void isRow(AtlasEnds x, String when, int tape, int... want) {
        for (int i = 0; i < want.length; i++) {
            due.is(when + ": item " + i, x.read(tape, i), want[i]);
        }
        due.is(when + ": no more", x.read(tape, want.length), AtlasEnds.NO);
    }

    private static void promise36Shift() {
        AtlasEnds x = new AtlasEnds();
        row(x, 0, 1, 2, 3, 4);
        row(x, 1, 10, 20, 30);
        due.is("shift(0, 1, 1, 0, 2)", x.shift(0, 1, 1, 0, 2), 2);
        isRow(x, "to", 1, 2, 3, 30);
        isRow(x, "from", 0, 1, 2, 3, 4);
        due.is("shift(0, 4, 1, 3, 0)", x.shift(0, 4, 1, 3, 0), 0);
        due.is("shift(0, 1, 1, 0, 3)", x.shift(0, 1, 1, 0, 3), 3);
        isRow(x, "all", 1, 2, 3, 4);
    }

    private static void promise36ShiftOnItself() {
        AtlasEnds x = new AtlasEnds();
        row(x, 0, 1, 2, 3, 4, 5);
        due.is("shift(0, 0, 0, 1, 4)", x.shift(0, 0, 0, 1, 4), 4);
        isRow(x, "upward", 0, 1, 1, 2, 3, 4);
        row(x, 0, 1, 2, 3, 4, 5);
        due.is("shift(0, 1, 0, 0, 4)", x.shift(0, 1, 0, 0, 4), 4);
        isRow(x, "downward", 0, 2, 3, 4, 5, 5);
    }

    private static void promise36ShiftRefusals() {
        AtlasEnds x = new AtlasEnds();
        row(x, 0, 1, 2, 3, 4);
        row(x, 1, 10, 20, 30);
        x.tape(2, 3, 4);
        due.is("shift: tape -1", x.shift(-1, 0, 0, 0, 1), -1);
        due.is("shift: other 6", x.shift(3, 0, 6, 0, 1), -1);
        due.is("shift: nothing there", x.shift(0, 0, 3, 0, 1), -11);
        due.is("shift: nothing here", x.shift(3, -1, 0, 0, 1), -11);
        due.is("shift: nothing on itself", x.shift(3, 0, 3, 0, 0), -11);
        due.is("shift: unlike sorts", x.shift(0, -1, 2, 0, 1), -12);
        due.is("shift: n -1", x.shift(0, 0, 1, 0, -1), -13);
        due.is("shift: i -1", x.shift(0, -1, 1, 0, 1), -13);
        due.is("shift: j -1", x.shift(0, 0, 1, -1, 1), -13);
        due.is("shift: beyond its end", x.shift(0, 3, 1, 0, 2), -13);
        due.is("shift: beyond the other's end", x.shift(0, 0, 1, 2, 2), -13);
        due.is("shift: i beyond, n 0", x.shift(0, 5, 1, 0, 0), -13);
        due.is("shift: j beyond, n 0", x.shift(0, 0, 1, 4, 0), -13);
        due.is("shift: i most", x.shift(0, Integer.MAX_VALUE, 1, 0, 2), -13);
        due.is("shift: j most", x.shift(0, 0, 1, Integer.MAX_VALUE, 2), -13);
        due.is("shift: n most", x.shift(0, 1, 1, 1, Integer.MAX_VALUE), -13);
        due.is("shift: n least", x.shift(0, 1, 1, 1, Integer.MIN_VALUE), -13);
        isRow(x, "as it was", 1, 10, 20, 30);
    }
}
