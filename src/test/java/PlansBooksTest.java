/** Promises 22 to 25: plan, ends, book, looked. */
public final class PlansBooksTest {
    private static final Due due = new Due("PlansBooksTest");

    public static void main(String[] args) {
        promise22Plan();
        promise23Ends();
        promise23EndsRowByRow();
        promise24Book();
        promise25Looked();
        due.end();
    }

    private static void promise22Plan() {
        AtlasEnds x = new AtlasEnds();
        due.is("plan(-1, 99)", x.plan(-1, 99), 0);
        due.is("plan(-2, 0)", x.plan(-2, 0), -1);
        due.is("plan(4, 0)", x.plan(4, 0), -1);
        due.is("plan: no LEAF, 1", x.plan(1, 0), -1);
        due.is("plan: no LEAF, 2", x.plan(2, 0), -1);
        due.is("plan: nobody", x.plan(3, 0), -1);
        due.is("plan(0, least)", x.plan(0, Integer.MIN_VALUE), 1);
        x.leaf(5);
        x.one(0, 0, 9);
        x.one(0, 0, 9);
        due.is("plan(1, 0)", x.plan(1, 0), 2);
        due.is("plan(2, 0)", x.plan(2, 0), 3);
        due.is("plan(3, 1)", x.plan(3, 1), 4);
        due.is("plan(1, 1)", x.plan(1, 1), -1);
        due.is("plan(2, -1)", x.plan(2, -1), -1);
        due.is("plan(3, 2)", x.plan(3, 2), -1);
        due.is("plan(3, -1)", x.plan(3, -1), -1);
        for (int i = 5; i <= 10; i++) {
            due.is("plan(0, 0), " + i, x.plan(0, 0), i);
        }
        due.is("plan: ten are there", x.plan(0, 0), -4);
        due.is("plan: NONE ahead of FULL", x.plan(3, 2), -1);
        due.is("plan: still ten", x.count(4), 10);
        due.is("plan(-1, 0)", x.plan(-1, 0), 0);
        due.is("plan: none", x.count(4), 0);
    }

    private static void promise23Ends() {
        AtlasEnds x = Due.ones(4, 44);
        due.is("ends: no PLAN, DROPS", x.ends(0), 0);
        due.is("ends: no PLAN, PLACES", x.ends(1), 48);
        due.is("ends(-1)", x.ends(-1), -1);
        due.is("ends(2)", x.ends(2), -1);
        x.leaf(10);
        x.hold(0, 0, 1);
        x.plan(0, 0);
        due.is("ends: let go", x.ends(0), 1);
        due.is("ends: asked alone", x.told(2), 0);
        x.plan(-1, 0);
        x.plan(1, 0);
        x.plan(0, 0);
        due.is("ends: let go by hand", x.ends(0), 0);
        x.plan(-1, 0);
        x.plan(2, 0);
        x.plan(0, 0);
        due.is("ends: LENGTH 40", x.ends(0), 0);
        due.is("ends: LENGTH as it was", x.sheet(0, 0), 10);
        due.is("ends: held as it was", x.told(4), 1);
        x.plan(3, 1);
        due.is("ends: one is at 0", x.ends(1), 4);
    }

    private static void promise23EndsRowByRow() {
        AtlasEnds x = Due.ones(4, 16);
        Due.library(x, "up 1 p=1");
        x.leaf(10);
        x.hold(0, 0, 1);
        x.plan(0, 7);
        due.is("5, 16", x.ends(1), 21);
        x.plan(3, 0);
        due.is("0, 16", x.ends(1), 16);
        x.plan(0, 7);
        due.is("GAP 7", x.ends(0), 1);
        due.is("0, 17", x.ends(1), 17);
        x.plan(1, 0);
        due.is("it isn't held by then", x.ends(0), 1);
        due.is("ends: PLACE as it was", x.of(0, 2), 4);
    }

    private static void promise24Book() {
        AtlasEnds x = Due.ones(9);
        due.is("book(-1, 100)", x.book(-1, 100), 0);
        due.is("book(1, 0)", x.book(1, 0), -1);
        due.is("book(-2, 0)", x.book(-2, 0), -1);
        due.is("book(1, 100)", x.book(1, 100), -1);
        due.is("book(0, 100)", x.book(0, 100), -2);
        due.is("book(0, -1)", x.book(0, -1), -2);
        due.is("book(0, 0)", x.book(0, 0), 1);
        for (int i = 2; i <= 8; i++) {
            due.is("book(0, 99), " + i, x.book(0, 99), i);
        }
        due.is("book: eight are there", x.book(0, 5), -4);
        due.is("book: NONE ahead of FULL", x.book(1, 5), -1);
        due.is("book: BAD ahead of FULL", x.book(0, 100), -2);
        due.is("book: still eight", x.count(5), 8);
        due.is("book(-1, 0)", x.book(-1, 0), 0);
        due.is("book: none", x.count(5), 0);
    }

    private static void promise25Looked() {
        AtlasEnds x = Due.ones(9, 20);
        due.is("looked: no BOOK", x.looked(), -5);
        x.book(1, 20);
        x.book(0, 9);
        due.is("looked: all so", x.looked(), -5);
        x.book(1, 21);
        x.book(0, 0);
        due.is("looked: the first", x.looked(), 2);
        x.walk(1, 21);
        due.is("looked: by now", x.looked(), 0);
        x.walk(1, 20);
        x.walk(0, 0);
        due.is("looked: the second row", x.looked(), 1);
    }
}
