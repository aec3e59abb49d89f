/** Boundary cases of "Terms" 1: how a LIBRARY is read from THE TEXT, and which holds. */
final class TextEdges extends Edge {
    private static final String DIGITS = "0123456789", LETTERS = "pkvxjs", WORDS = "udb";
    private static final String PARTS = LETTERS + "!(";

    /** A LIBRARY of 100 signs. */
    static String hundred() {
        return "up 1 p<9" + "&p<9".repeat(23);
    }

    /** 100 signs with which a LIBRARY begins, but it ends too early. */
    static String hundredTooShort() {
        return "up 12 p<9" + "&p<9".repeat(22) + "|p<";
    }

    // ---- who reads and what is fed in

    private static void reads(String text) {
        is(0, new Atlas().library(text));
    }

    private static void fault(int place, String text) {
        is(-10 - place, new Atlas().library(text));
    }

    /** Behind this beginning, the FAULT of each sign but those is that sign's place. */
    private static void goesOnWith(String beginning, String signs) {
        for (int sign = 0; sign <= 127; sign++) {
            Atlas a = new Atlas();
            a.feedAll(beginning);
            a.feed(sign);
            boolean isFault = a.library() == -10 - beginning.length();
            is(signs.indexOf(sign) < 0 ? 1 : 0, isFault ? 1 : 0);
        }
    }

    /** What is of(.., 4), the DRIFT, of a ONE with v 0 at PLACE 0, by this text: its SUM. */
    private static void sum(int want, String text) {
        Atlas a = Atlas.ones(0);
        is(0, a.library(text));
        is(want, a.of(0, 4));
    }

    // ---- THE TEXT

    @Of(part = "Terms 1", says = "THE TEXT (bytes, 100 at most)")
    static void textOfAHundred() {
        Atlas a = Atlas.ones(50);
        is(0, a.library(hundred()));
        is(1, a.of(0, 4));
        a.feedAll(hundred());
        is(FULL, a.feed(';'));
        is(1, a.library());
    }

    @Of(part = "Terms 1", says = "THE TEXT (bytes, 100 at most)")
    static void textOfNone() {
        Atlas a = new Atlas();
        is(0, a.count(6));
        is(-10, a.library());
    }

    // ---- CLAUSES

    @Of(part = "Terms 1", says = "CLAUSES, 1 to 10, with ; between")
    static void clausesNone() {
        fault(0, "");
        fault(0, ";");
    }

    @Of(part = "Terms 1", says = "CLAUSES, 1 to 10, with ; between")
    static void clausesOne() {
        reads("bear 1");
        reads("up 1 p<9");
        reads("down 1 p<9");
    }

    @Of(part = "Terms 1", says = "CLAUSES, 1 to 10, with ; between")
    static void clausesTen() {
        reads(Halls.TEN_CLAUSES);
        sum(10, "up 1 p=0" + ";up 1 p=0".repeat(9));
        sum(5, "up 1 p=0;up 1 p=0;down 1 p=0;up 1 p=0;up 1 p=0;bear 1;up 1 p=0;up 1 p=0;up 1 p=1;up 0 p=0");
    }

    @Of(part = "Terms 1", says = "CLAUSES, 1 to 10, with ; between")
    static void clausesEleven() {
        fault(69, Halls.TEN_CLAUSES + ";");
        fault(69, Halls.TEN_CLAUSES + ";bear 1");
        goesOnWith(Halls.TEN_CLAUSES, DIGITS);
        goesOnWith(Halls.TEN_CLAUSES + "0", "");
        goesOnWith(Halls.TEN_CLAUSES.substring(0, 62), ";" + DIGITS);
    }

    @Of(part = "Terms 1", says = "with ; between")
    static void clausesApart() {
        fault(0, ";bear 1");
        fault(7, "bear 1;");
        fault(7, "bear 1;;bear 2");
        fault(6, "bear 1 ;bear 2");
        fault(7, "bear 1; bear 2");
        fault(7, "bear 11bear 2");
        fault(6, "bear 1,bear 2");
        reads("bear 1;bear 2");
        goesOnWith("bear 1;", WORDS);
        goesOnWith("bear 12", ";");
    }

    @Of(part = "Terms 1", says = "up n E; down n E; bear n")
    static void clauseWords() {
        goesOnWith("", WORDS);
        goesOnWith("u", "p");
        goesOnWith("d", "o");
        goesOnWith("do", "w");
        goesOnWith("dow", "n");
        goesOnWith("b", "e");
        goesOnWith("be", "a");
        goesOnWith("bea", "r");
    }

    @Of(part = "Terms 1", says = "up n E; down n E; bear n")
    static void clauseParts() {
        fault(4, "up 1");
        fault(6, "down 1");
        fault(4, "up 1;bear 1");
        fault(6, "down 1;bear 1");
        fault(6, "bear 1 p<9");
        fault(3, "up p<9");
    }

    @Of(part = "Terms 1", says = "one blank ahead of each part behind the word")
    static void clauseBlanks() {
        goesOnWith("up", " ");
        goesOnWith("up ", DIGITS);
        goesOnWith("up 12", " ");
        goesOnWith("up 12 ", PARTS);
        goesOnWith("down", " ");
        goesOnWith("down ", DIGITS);
        goesOnWith("down 12", " ");
        goesOnWith("down 12 ", PARTS);
        goesOnWith("bear", " ");
        goesOnWith("bear ", DIGITS);
        fault(0, " up 1 p<9");
        fault(8, "up 1 p<9 ");
        fault(6, "up 1 p <9");
        fault(7, "up 1 p< 9");
        fault(8, "up 1 p<9 &p<9");
        fault(6, "up 1 ! p<9");
    }

    @Of(part = "Terms 1", says = "n 1 or 2 digits")
    static void clauseDigits() {
        goesOnWith("up 1", " " + DIGITS);
        goesOnWith("down 1", " " + DIGITS);
        goesOnWith("bear 1", ";" + DIGITS);
        fault(5, "up 123 p<9");
        fault(7, "bear 123");
        fault(3, "up -1 p<9");
        sum(0, "up 0 p<9");
        sum(0, "up 00 p<9");
        sum(9, "up 9 p<9");
        sum(9, "up 09 p<9");
        sum(10, "up 10 p<9");
        sum(99, "up 99 p<9");
        sum(-99, "down 99 p<9");
    }

    // ---- E, T, F

    @Of(part = "Terms 1", says = "E: T or T|E.")
    static void anyOfMany() {
        sum(1, "up 1 p=0");
        sum(1, "up 1 p=0|p=1");
        sum(1, "up 1 p=1|p=0");
        sum(1, "up 1 p=0|p=0");
        sum(0, "up 1 p=1|p=2");
        sum(1, "up 1 p=1|p=2|p=0");
        sum(1, "up 1 p=0|p=2|p=1");
        fault(5, "up 1 |p=0");
        fault(9, "up 1 p=0|");
        fault(9, "up 1 p=0||p=0");
        goesOnWith("up 1 p=0|", PARTS);
    }

    @Of(part = "Terms 1", says = "T: F or F&T.")
    static void allOfMany() {
        sum(1, "up 1 p=0&p=0");
        sum(0, "up 1 p=0&p=1");
        sum(0, "up 1 p=1&p=0");
        sum(0, "up 1 p=1&p=1");
        sum(1, "up 1 p=0&v=0&x=0");
        sum(0, "up 1 p=0&v=0&x=1");
        sum(0, "up 1 p=1&v=0&x=0");
        fault(5, "up 1 &p=0");
        fault(9, "up 1 p=0&");
        fault(9, "up 1 p=0&&p=0");
        fault(9, "up 1 p=0&|p=0");
        goesOnWith("up 1 p=0&", PARTS);
    }

    @Of(part = "Terms 1", says = "E: T or T|E. T: F or F&T.")
    static void allBindsAheadOfAny() {
        sum(1, "up 1 p=0|p=1&p=1");
        sum(1, "up 1 p=1&p=1|p=0");
        sum(0, "up 1 p=1|p=0&p=1");
        sum(1, "up 1 p=1|p=0&p=0");
    }

    @Of(part = "Terms 1", says = "F: !F, (E), or a TEST")
    static void notAndParts() {
        sum(0, "up 1 !p=0");
        sum(1, "up 1 !p=1");
        sum(1, "up 1 !!p=0");
        sum(0, "up 1 !p=0&p=1");
        sum(0, "up 1 !p=1&p=1");
        sum(1, "up 1 !p=0|p=0");
        sum(1, "up 1 !(p=0&p=1)");
        sum(0, "up 1 !(p=0|p=1)");
        sum(0, "up 1 (p=0|p=1)&p=1");
        sum(1, "up 1 p=0&(p=1|p=0)");
        sum(1, "up 1 (p=0)");
        fault(6, "up 1 ()");
        fault(5, "up 1 )");
        fault(8, "up 1 p=0)");
        fault(10, "up 1 (p=0))");
        fault(9, "up 1 (p=0");
        fault(9, "up 1 (p=0;bear 1");
        fault(6, "up 1 !");
        fault(6, "up 1 !&p=0");
        fault(8, "up 1 p=0!p=0");
        fault(8, "up 1 p=0(p=0)");
        fault(10, "up 1 (p=0)p=0");
        goesOnWith("up 1 !", PARTS);
        goesOnWith("up 1 (", PARTS);
        goesOnWith("up 1 (p<9", DIGITS + ")&|");
        goesOnWith("up 1 (p<99", ")&|");
        goesOnWith("up 1 (p<9)", ";&|");
        goesOnWith("up 1 (p<9&", PARTS);
    }

    @Of(part = "Terms 1", says = "a TEST: a letter, < or = or >, a number (1 or 2 digits)")
    static void testParts() {
        goesOnWith("up 1 ", PARTS);
        for (int letter = 0; letter < LETTERS.length(); letter++) {
            goesOnWith("up 1 " + LETTERS.charAt(letter), "<=>");
        }
        goesOnWith("up 1 p<", DIGITS);
        goesOnWith("up 1 p=", DIGITS);
        goesOnWith("up 1 p>", DIGITS);
        fault(7, "up 1 p<=1");
        fault(5, "up 1 1<p");
    }

    @Of(part = "Terms 1", says = "a number (1 or 2 digits)")
    static void testDigits() {
        goesOnWith("up 1 p<1", DIGITS + ";&|");
        goesOnWith("up 1 p<12", ";&|");
        fault(7, "up 1 p=");
        fault(9, "up 1 p=123");
        sum(1, "up 1 p=0");
        sum(1, "up 1 p=00");
        sum(1, "up 1 p<99");
        sum(1, "up 1 p<01");
        sum(0, "up 1 p=10");
        sum(0, "up 1 p=01");
    }

    @Of(part = "Terms 1", says = "< or = or >")
    static void testSides() {
        String[] tests = {"v<4", "v<5", "v<6", "v=4", "v=5", "v=6", "v>4", "v>5", "v>6"};
        int[] due = {0, 0, 1, 0, 1, 0, 1, 0, 0};
        for (int i = 0; i < tests.length; i++) {
            Atlas b = new Atlas();
            b.one(0, 5, 50);
            b.library("up 1 " + tests[i]);
            is(due[i], b.of(0, 4));
        }
    }

    // ---- the letters

    private static void drift(Atlas a, int person, int want, String text) {
        a.library(text);
        is(want, a.of(person, 4));
    }

    @Of(part = "Terms 1", says = "of one p its number")
    static void letterP() {
        for (int p = 0; p <= 5; p++) {
            Atlas a = Atlas.ones(0, 0, 0, 0, 0, 0);
            drift(a, p, 1, "up 1 p=" + p);
            drift(a, p, 0, "up 1 p<" + p);
            drift(a, p, 0, "up 1 p>" + p);
        }
    }

    @Of(part = "Terms 1", says = "k its KIND")
    static void letterK() {
        for (int kind = 0; kind <= 6; kind++) {
            Atlas a = new Atlas();
            a.one(0, 5, 50);
            a.one(kind, 5, 50);
            a.row(1, 1, 4);
            a.pass(1);
            // A CLERK and a PORTER drift by the half, a TOLD one by its ROW less 4.
            drift(a, 1, kind == 2 || kind == 5 ? 4 : 8, "up 8 k=" + kind);
            drift(a, 1, 0, "up 8 k<" + kind + "|k>" + kind);
        }
    }

    @Of(part = "Terms 1", says = "v its v")
    static void letterV() {
        for (int v = 0; v <= 9; v++) {
            Atlas a = new Atlas();
            a.one(0, v, 50);
            drift(a, 0, 1, "up 1 v=" + v);
            drift(a, 0, 0, "up 1 v<" + v + "|v>" + v);
        }
    }

    @Of(part = "Terms 1", says = "x PLACE by 10 (cut)")
    static void letterX() {
        int[] places = {0, 9, 10, 19, 20, 89, 90, 99};
        for (int place : places) {
            Atlas a = Atlas.ones(place);
            drift(a, 0, 1, "up 1 x=" + place / 10);
            drift(a, 0, 0, "up 1 x<" + place / 10 + "|x>" + place / 10);
        }
    }

    @Of(part = "Terms 1", says = "j how many LEAVES it holds")
    static void letterJ() {
        for (int holds = 0; holds <= 4; holds++) {
            Atlas a = Atlas.ones(1, 2, 3);
            for (int leaf = 0; leaf < 4; leaf++) {
                a.leaf(40);
                a.hold(leaf, leaf < holds ? leaf % 2 : 2, leaf < holds ? 1 - leaf % 2 : 1);
            }
            drift(a, 0, 1, "up 1 j=" + holds);
            drift(a, 0, 0, "up 1 j<" + holds + "|j>" + holds);
            drift(a, 1, 1, "up 1 j=4");
        }
    }

    @Of(part = "Terms 1", says = "s STEP modulo 10")
    static void letterS() {
        Atlas a = Atlas.ones(50);
        a.library("up 10 s=0;up 20 s=9;up 30 s>9;up 40 s=8");
        int[] due = {10, 0, 0, 0, 0, 0, 0, 0, 40, 20, 10, 0, 0, 0, 0, 0, 0, 0, 40, 20, 10};
        for (int step = 0; step < due.length; step++) {
            is(due[step], a.of(0, 4));
            a.pass(1);
        }
    }

    // ---- nesting

    @Of(part = "Terms 1", says = "A ( or ! within 4 others is none.")
    static void nestedFour() {
        sum(1, "up 1 ((((p=0))))");
        sum(1, "up 1 !!!!p=0");
        sum(1, "up 1 !(!(p=0))");
        sum(0, "up 1 (!(!p=0))&p=1");
        sum(1, "up 1 ((((p=0))))&((((p=0))))|!!!!p=1");
        sum(1, "up 1 !!!(p=1|p=2)&!!!(p=1)");
        sum(1, "up 1 (((p=0&(p=0)&!p=1)))");
    }

    @Of(part = "Terms 1", says = "A ( or ! within 4 others is none.")
    static void nestedFive() {
        fault(9, "up 1 (((((p=0)))))");
        fault(9, "up 1 !!!!!p=0");
        fault(9, "up 1 !(!((p=0)))");
        fault(9, "up 1 !!!!(p=0)");
        fault(9, "up 1 ((((!p=0))))");
        fault(9, "up 1 (!(!(p=0)))");
        fault(13, "up 1 ((((p=0&!p=0))))");
        fault(13, "up 1 ((((p=0|(p=0)))))");
        goesOnWith("up 1 ((((", LETTERS);
        goesOnWith("up 1 !!!!", LETTERS);
        goesOnWith("up 1 !(!(", LETTERS);
        goesOnWith("up 1 (((", PARTS);
        goesOnWith("up 1 !!!", PARTS);
        goesOnWith("up 1 ((((p<9)", ")&|");
        goesOnWith("up 1 ((((p<9)&", PARTS);
        goesOnWith("up 1 ((((p<9&", LETTERS);
        goesOnWith("up 1 !!!!p<9&", PARTS);
    }

    // ---- the FAULT

    @Of(part = "Terms 1", says = "The FAULT: the place of the first byte with which none begins so")
    static void faultIsTheFirst() {
        fault(0, "x");
        fault(0, "" + (char) 0);
        fault(0, "" + (char) 127);
        fault(0, "UP 1 p<9");
        fault(5, "up 1 z=1;zzz");
        fault(99, hundred().substring(0, 99) + "&");
        fault(99, hundred().substring(0, 99) + (char) 0);
        fault(8, "up 1 p<9" + (char) 0);
        // With the b a LIBRARY begins yet, with the z none.
        fault(10, "up 1 p<9;bz");
    }

    @Of(part = "Terms 1", says = "(the end of THE TEXT, if it ends too early)")
    static void faultOfATextThatEndsTooEarly() {
        String text = "down 12 !(p<10|k=6)&v>3;bear 9";
        for (int n = 0; n <= text.length(); n++) {
            String begun = text.substring(0, n);
            if (n == 19 || n == 23 || n == 30) {
                reads(begun);
            } else {
                fault(n, begun);
            }
        }
        fault(99, hundred().substring(0, 99));
        fault(100, hundredTooShort());
    }

    @Of(part = "Terms 1", says = "(the end of THE TEXT, if it ends too early)")
    static void faultOfATextOfAHundredThatEndsTooEarly() {
        String[] ends = {";", ";u", ";up", ";up ", ";up 1", ";up 12", ";up 1 ", ";up 1 p", ";up 1 p=", ";up 1 !", ";up 1 (",
            ";d", ";down", ";down ", ";down 1", ";down 1 ", ";b", ";bea", ";bear", ";bear ", "&", "|", "&p", "&p>", "&!", "&(",
            "&(p<1", "&(p<12", "&(p<1|", "&(p<1&", "&((((p<1)))", "|!!!!", "|((((" };
        for (String end : ends) {
            fault(100, hundredThatEndWith(end));
        }
        String[] whole = {"", ";bear 1", ";bear 12", ";up 1 p=1", ";down 12 p=12", "&(p<1)", "|!!!!p<12", "&((((p<1))))"};
        for (String end : whole) {
            reads(hundredThatEndWith(end));
        }
    }

    private static String hundredThatEndWith(String end) {
        String[] heads = {"up 1 p<9", "up 12 p<9", "up 12 p<12", "down 12 p<9"};
        String head = heads[(100 - end.length()) % 4];
        String text = head + "&p<9".repeat((100 - end.length() - head.length()) / 4) + end;
        if (text.length() != 100) {
            throw new IllegalStateException("not 100 signs: " + text);
        }
        return text;
    }

    // ---- which holds, BEAR, SUM

    @Of(part = "Terms 1", says = "The newest LIBRARY holds (6 at most)")
    static void newestHolds() {
        Atlas a = Atlas.ones(50);
        for (int library = 0; library < 6; library++) {
            a.library("up " + (library + 1) + " p<9");
            is(library + 1, a.of(0, 4));
        }
        is(FULL, a.library("up 9 p<9"));
        is(6, a.of(0, 4));
        is(6, a.count(2));
    }

    @Of(part = "Terms 1", says = "without one there are no CLAUSES")
    static void noneHolds() {
        Atlas a = new Atlas();
        for (int kind = 0; kind <= 5; kind++) {
            a.one(kind, 9, 50);
            is(0, a.of(kind, 4));
        }
        a.pass(60);
        for (int kind = 0; kind <= 5; kind++) {
            is(50, a.of(kind, 2));
        }
        a.library("bear");
        is(0, a.of(0, 4));
    }

    @Of(part = "Terms 1", says = "BEAR (6 without): the last one's n.")
    static void bearOfWhich() {
        Atlas a = new Atlas();
        is(6, a.told(1));
        a.library("up 1 p<9");
        is(6, a.told(1));
        a.library("bear 0");
        is(0, a.told(1));
        a.library("bear 99");
        is(99, a.told(1));
        a.library("bear 3;up 1 p<9;bear 7;up 2 p<9");
        is(7, a.told(1));
        a.library("bear 7;bear 3");
        is(3, a.told(1));
        a.library("down 1 p<9");
        is(6, a.told(1));
    }

    @Of(part = "Terms 1",
        says = "SUM of one: the n of all up whose E holds, less those of all down, together (may be below 0).")
    static void sumOfAll() {
        sum(0, "bear 5");
        sum(990, "up 99 p<9" + ";up 99 p<9".repeat(9));
        sum(-792, "down 99 p<9" + ";down 99 p<9".repeat(7));
        sum(-1, "up 1 p<9;down 2 p<9");
        sum(0, "up 1 p=1;down 2 p=1");
        sum(5, "up 5 p=0;up 7 p=1;down 9 p=1");
        sum(-9, "down 9 p=0;up 7 p=1");
    }
}
