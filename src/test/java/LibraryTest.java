/** Promises 11 to 13: feed, library, told. */
public final class LibraryTest {
    private static final Due due = new Due("LibraryTest");

    public static void main(String[] args) {
        promise11Feed();
        promise12Libraries();
        promise12FaultsOfClauses();
        promise12FaultsOfTests();
        promise12FaultsOfNesting();
        promise12TenClauses();
        promise12FaultAtTheHundredth();
        promise12FaultKeepsTheOneThatHeld();
        lettersAndCompares();
        howItIsJoined();
        sumsOfClauses();
        promise13Told();
        due.end();
    }

    private static void promise11Feed() {
        AtlasEnds x = new AtlasEnds();
        due.is("feed(-1)", x.feed(-1), -2);
        due.is("feed(128)", x.feed(128), -2);
        due.is("feed(0)", x.feed(0), 1);
        due.is("feed(127)", x.feed(127), 2);
        for (int i = 3; i <= 100; i++) {
            due.is("feed: " + i, x.feed(65), i);
        }
        due.is("feed: 100 are there", x.feed(65), -4);
        due.is("feed: BAD ahead of FULL", x.feed(128), -2);
        due.is("feed: still 100", x.count(6), 100);
        due.is("feed: the first byte is none", x.library(), -10);
        due.is("feed: empty then", x.count(6), 0);
        due.is("feed: the first again", x.feed(98), 1);
    }

    private static void promise12Libraries() {
        AtlasEnds x = Due.ones(0);
        for (int i = 0; i < 6; i++) {
            due.is("library: number " + i, Due.library(x, "bear 1" + i), i);
            due.is("library: THE TEXT is empty", x.count(6), 0);
            due.is("library: the newest holds", x.told(1), 10 + i);
            due.is("library: how many", x.count(2), i + 1);
        }
        Due.feed(x, "bear 9");
        due.is("library: six are there", x.library(), -4);
        due.is("library: THE TEXT stays", x.count(6), 6);
        Due.feed(x, "x");
        due.is("library: FULL ahead of a FAULT", x.library(), -4);
        due.is("library: THE TEXT still stays", x.count(6), 7);
        due.is("library: the last holds", x.told(1), 15);
    }

    /** The FAULT, or -1: none. */
    private static void fault(String text, int want) {
        AtlasEnds x = new AtlasEnds();
        due.is("FAULT of '" + text + "'", Due.library(x, text), want < 0 ? 0 : -10 - want);
        due.is("THE TEXT behind '" + text + "'", x.count(6), 0);
        due.is("LIBRARIES behind '" + text + "'", x.count(2), want < 0 ? 1 : 0);
    }

    private static void promise12FaultsOfClauses() {
        fault("", 0);
        fault("x", 0);
        fault(" up 1 p=1", 0);
        fault("Up 1 p=1", 0);
        fault(";", 0);
        fault("u", 1);
        fault("un 1 p=1", 1);
        fault("up", 2);
        fault("up1 p=1", 2);
        fault("up ", 3);
        fault("up  1 p=1", 3);
        fault("up p=1", 3);
        fault("up -1 p=1", 3);
        fault("up 1", 4);
        fault("up 1;", 4);
        fault("up 12", 5);
        fault("up 12p=1", 5);
        fault("up 123 p=1", 5);
        fault("up 1 ", 5);
        fault("up 1  p=1", 5);
        fault("dawn 1 p=1", 1);
        fault("down", 4);
        fault("down 1 p=1", -1);
        fault("down 01 p=01", -1);
        fault("bear", 4);
        fault("beat 1", 3);
        fault("bear ", 5);
        fault("bear 0", -1);
        fault("bear 99", -1);
        fault("bear 123", 7);
        fault("bear 1 p=1", 6);
        fault("bear 1;", 7);
        fault("bear 1;;", 7);
        fault("bear 1;bear 2", -1);
        fault("bear 1; bear 2", 7);
        fault("bear 1;u", 8);
    }

    private static void promise12FaultsOfTests() {
        fault("up 1 q=1", 5);
        fault("up 1 P=1", 5);
        fault("up 1 p", 6);
        fault("up 1 p1", 6);
        fault("up 1 p =1", 6);
        fault("up 1 p=", 7);
        fault("up 1 p==1", 7);
        fault("up 1 p<=1", 7);
        fault("up 1 p=x", 7);
        fault("up 1 p=1", -1);
        fault("up 1 p=12", -1);
        fault("up 1 p=123", 9);
        fault("up 1 p=1 ", 8);
        fault("up 1 p=1;", 9);
        fault("up 1 p=1)", 8);
        fault("up 1 p=1p=2", 8);
        fault("up 1 p=1&", 9);
        fault("up 1 p=1&&p=1", 9);
        fault("up 1 p=1&|p=1", 9);
        fault("up 1 p=1|", 9);
        fault("up 1 p=1||p=1", 9);
        fault("up 1 p=1&k=2|v=3", -1);
        fault("up 1 p=1|k=2&v=3", -1);
        fault("up 1 p=1!p=1", 8);
    }

    private static void promise12FaultsOfNesting() {
        fault("up 1 ()", 6);
        fault("up 1 (p=1", 9);
        fault("up 1 (p=1;bear 1", 9);
        fault("up 1 (p=1)", -1);
        fault("up 1 (p=1))", 10);
        fault("up 1 !", 6);
        fault("up 1 !;", 6);
        fault("up 1 !p=1", -1);
        fault("up 1 !!!!p=1", -1);
        fault("up 1 !!!!!p=1", 9);
        fault("up 1 ((((p=1))))", -1);
        fault("up 1 (((((p=1)))))", 9);
        fault("up 1 !(!(p=1))", -1);
        fault("up 1 !(!(!p=1))", 9);
        fault("up 1 !(!((p=1)))", 9);
        fault("up 1 ((((p=1&!p=1))))", 13);
        fault("up 1 !!!!p=1&!p=1", -1);
        fault("up 1 ((((p=1))))|((((p=1))))", -1);
        fault("up 1 ((((p=1))))&((((p=1))))", -1);
    }

    private static void promise12TenClauses() {
        StringBuilder ten = new StringBuilder("bear 1");
        for (int i = 2; i <= 10; i++) {
            ten.append(";bear 1");
        }
        fault(ten.toString(), -1);
        fault(ten + ";", 69);
        fault(ten + ";bear 1", 69);
        fault(ten + "1", -1);
    }

    private static void promise12FaultAtTheHundredth() {
        StringBuilder text = new StringBuilder("up 1 p=1");
        while (text.length() < 96) {
            text.append("&p=1");
        }
        text.append("&p=1");
        fault(text.toString(), -1);
        text.setCharAt(99, '=');
        fault(text.toString(), 99);
        text.setLength(99);
        fault(text + "", 99);
        text.setLength(96);
        fault(text + "&k=(", 99);
        // 100 signs, and it ends too early.
        fault("up 11 p=11&" + text.substring(5, 92) + "&p", 100);
    }

    private static void promise12FaultKeepsTheOneThatHeld() {
        AtlasEnds x = Due.ones(0);
        due.is("first", Due.library(x, "up 5 p=0;bear 3"), 0);
        due.is("a FAULT", Due.library(x, "up 9 p=0;bear 8;x"), -26);
        due.is("BEAR as it was", x.told(1), 3);
        due.is("DRIFT as it was", x.of(0, 4), 5);
        due.is("the next number", Due.library(x, "up 7 p=0"), 1);
        due.is("DRIFT of the newest", x.of(0, 4), 7);
        due.is("BEAR without", x.told(1), 6);
    }

    private static void drift(int person, String text, int want) {
        AtlasEnds x = fourAtStepTwelve();
        due.is(text, Due.library(x, text), 0);
        due.is("of(" + person + ", 4) by " + text, x.of(person, 4), want);
    }

    /** ONE with v 0, 3, 6, 9 at 9, 10, 50, 99; 0 and 1 hold a LEAF, 1 and 2 another. */
    private static AtlasEnds fourAtStepTwelve() {
        AtlasEnds x = new AtlasEnds();
        x.one(0, 0, 9);
        x.one(0, 3, 10);
        x.one(0, 6, 50);
        x.one(0, 9, 99);
        x.leaf(40);
        x.leaf(40);
        x.hold(0, 0, 1);
        x.hold(1, 1, 2);
        x.pass(12);
        return x;
    }

    private static void lettersAndCompares() {
        drift(2, "up 1 p=2", 1);
        drift(2, "up 1 p<2", 0);
        drift(2, "up 1 p>2", 0);
        drift(2, "up 1 p<3", 1);
        drift(2, "up 1 p>1", 1);
        drift(2, "up 1 p=20", 0);
        drift(2, "up 1 p=02", 1);
        drift(2, "up 1 k=0", 1);
        drift(2, "up 1 k>0", 0);
        drift(2, "up 1 v=6", 1);
        drift(2, "up 1 v<6", 0);
        drift(0, "up 1 x=0", 1);
        drift(1, "up 1 x=1", 1);
        drift(3, "up 1 x=9", 1);
        drift(3, "up 1 x<10", 1);
        drift(0, "up 1 j=1", 1);
        drift(1, "up 1 j=2", 1);
        drift(3, "up 1 j=0", 1);
        drift(0, "up 1 s=2", 1);
        drift(0, "up 1 s=12", 0);
        drift(0, "up 99 s>1", 99);
    }

    private static void howItIsJoined() {
        drift(0, "up 1 p=0|p=1&p=2", 1);
        drift(0, "up 1 p=1&p=2|p=0", 1);
        drift(0, "up 1 (p=0|p=1)&p=2", 0);
        drift(0, "up 1 !p=1&p=2", 0);
        drift(0, "up 1 !(p=1&p=2)", 1);
        drift(0, "up 1 !!p=0", 1);
        drift(0, "up 1 !p=0|p=1", 0);
        drift(0, "up 1 p=1|p=2|p=0", 1);
        drift(0, "up 1 p=0&p<9", 1);
        drift(0, "up 1 p=0&!p>9", 1);
        drift(0, "up 1 p=1|p<9", 1);
        drift(0, "up 1 p<9|p=1", 1);
        drift(0, "up 1 p=0&v=0&x=1", 0);
        drift(0, "up 1 p=0&v=0&x=0", 1);
        drift(0, "up 1 (p=1|(p=2|(p=3|!p=1)))", 1);
        drift(0, "up 1 (p=0&(p=0&(p=0&!p=0)))", 0);
    }

    private static void sumsOfClauses() {
        drift(0, "up 1 p=0;up 2 p=0;down 9 p=0;bear 7", -6);
        drift(0, "up 1 p=1;up 2 p=0;down 9 p=1", 2);
        drift(0, "down 99 p=0;down 99 p<9", -198);
        drift(0, "up 0 p=0", 0);
    }

    private static void promise13Told() {
        AtlasEnds x = Due.ones(0, 8, 60);
        x.leaf(7);
        x.leaf(20);
        x.leaf(40);
        due.is("told: held by none", x.told(4), 0);
        x.hold(0, 0, 1);
        x.hold(2, 0, 1);
        due.is("told: TAUT", x.told(3), 1);
        due.is("told: held", x.told(4), 5);
        x.hold(1, 0, 2);
        due.is("told: TAUT, two", x.told(3), 3);
        due.is("told: held, three", x.told(4), 7);
        due.is("told: BEAR without", x.told(1), 6);
        Due.library(x, "bear 9;up 1 p=9;bear 4;up 2 p=9");
        due.is("told: BEAR is the last one's", x.told(1), 4);
        x.pass(2);
        due.is("told: STEP", x.told(0), 2);
        due.is("told: DROPS", x.told(2), 1);
        due.is("told: still held", x.told(4), 5);
        due.is("told: TAUT no more", x.told(3), 0);
        due.is("told(-1)", x.told(-1), -1);
        due.is("told(5)", x.told(5), -1);
    }
}
