import java.util.Random;

/**
 * Promises 1 to 36, all together: long runs of calls, each asked of the class and of PlainModel. Numbers are
 * drawn from a seed that stands here, so that each run is the same; some are far outside of what is allowed.
 * Arguments: how many runs, and the first seed.
 */
public final class ModelTest {
    private static final int CALLS = 512;
    private static final int[] FAR = {
        Integer.MIN_VALUE, Integer.MIN_VALUE + 1, -1000, -100, 100, 127, 128, 1000, Integer.MAX_VALUE - 1, Integer.MAX_VALUE};

    private final Random random;
    private final AtlasEnds x = new AtlasEnds();
    private final PlainModel y = new PlainModel();
    private final StringBuilder told = new StringBuilder();
    private int calls;
    private boolean isWrong;

    private ModelTest(long seed) {
        random = new Random(seed);
    }

    public static void main(String[] args) {
        int runs = args.length > 0 ? Integer.parseInt(args[0]) : 600;
        long first = args.length > 1 ? Long.parseLong(args[1]) : 1;
        for (long seed = first; seed < first + runs; seed++) {
            ModelTest test = new ModelTest(seed);
            test.run();
            if (test.isWrong) {
                System.out.println("seed " + seed + ":\n" + test.told);
                System.exit(1);
            }
        }
        System.out.println("ModelTest: " + runs + " runs of " + CALLS + " calls, all as the model");
    }

    private void run() {
        if (random.nextInt(10) > 0) {
            setOut();
        }
        while (calls < CALLS && !isWrong) {
            if (random.nextInt(25) == 0) {
                tellLibrary();
            } else {
                callOne();
            }
        }
    }

    private void setOut() {
        int people = 2 + random.nextInt(5);
        int leaves = 1 + random.nextInt(4);
        for (int i = 0; i < people && !isWrong; i++) {
            one(random.nextInt(7), random.nextInt(10), random.nextInt(100));
        }
        for (int i = 0; i < leaves && !isWrong; i++) {
            leaf(1 + random.nextInt(40));
            hold(i, random.nextInt(people), random.nextInt(people));
        }
        if (random.nextInt(3) > 0) {
            tellLibrary();
        }
    }

    // ---- numbers and texts

    /** Mostly within, at times at or behind an edge, rarely far off. */
    private int near(int least, int most) {
        int r = random.nextInt(40);
        if (r == 0) {
            return FAR[random.nextInt(FAR.length)];
        }
        if (r == 1) {
            return least - 1;
        }
        if (r == 2) {
            return most + 1;
        }
        if (r < 5) {
            return r == 3 ? least : most;
        }
        return least + random.nextInt(most - least + 1);
    }

    private String test() {
        String letter = "" + "pkvxjs".charAt(random.nextInt(6));
        String compare = "" + "<=>".charAt(random.nextInt(3));
        return letter + compare + random.nextInt(random.nextInt(4) == 0 ? 100 : 10);
    }

    private String part(int depth) {
        int r = random.nextInt(6);
        if (r == 0 && depth < 5) {
            return "!" + part(depth + 1);
        }
        if (r == 1 && depth < 5) {
            return "(" + any(depth + 1) + ")";
        }
        return test();
    }

    private String joined(int depth, boolean isAny) {
        StringBuilder s = new StringBuilder(isAny ? joined(depth, false) : part(depth));
        while (random.nextInt(4) == 0) {
            s.append(isAny ? "|" : "&").append(isAny ? joined(depth, false) : part(depth));
        }
        return s.toString();
    }

    private String any(int depth) {
        return joined(depth, true);
    }

    private String clause() {
        int n = random.nextInt(random.nextInt(3) == 0 ? 100 : 8);
        switch (random.nextInt(5)) {
            case 0: return "bear " + n;
            case 1: case 2: return "up " + n + " " + any(0);
            default: return "down " + n + " " + any(0);
        }
    }

    private String text() {
        StringBuilder s = new StringBuilder(clause());
        int more = random.nextInt(5);
        for (int i = 0; i < more; i++) {
            s.append(';').append(clause());
        }
        if (random.nextInt(12) == 0) {
            s.setLength(0);
            int clauses = 8 + random.nextInt(4);
            for (int i = 0; i < clauses; i++) {
                s.append(i == 0 ? "" : ";").append(random.nextInt(3) > 0 ? "bear " + i : "up 1 p=" + i);
            }
        }
        if (random.nextInt(3) == 0) {
            spoil(s);
        }
        return s.toString();
    }

    private void spoil(StringBuilder s) {
        int at = random.nextInt(s.length());
        char sign = "udb ;0129pkvxjs<=>!()&|?".charAt(random.nextInt(24));
        switch (random.nextInt(4)) {
            case 0: s.setLength(at); break;
            case 1: s.setCharAt(at, sign); break;
            case 2: s.insert(at, sign); break;
            default: s.deleteCharAt(at); break;
        }
    }

    // ---- calls

    private void same(String call, long got, long want) {
        calls++;
        told.append(call).append(" = ").append(want).append('\n');
        if (got != want) {
            told.append("  but the class answered ").append(got).append('\n');
            isWrong = true;
        }
    }

    private void one(int a, int b, int c) {
        same("one(" + a + ", " + b + ", " + c + ")", x.one(a, b, c), y.one(a, b, c));
    }

    private void leaf(int a) {
        same("leaf(" + a + ")", x.leaf(a), y.leaf(a));
    }

    private void hold(int a, int b, int c) {
        same("hold(" + a + ", " + b + ", " + c + ")", x.hold(a, b, c), y.hold(a, b, c));
    }

    private void feed(int sign) {
        same("feed(" + sign + ")", x.feed(sign), y.feed(sign));
    }

    private void tellLibrary() {
        String text = text();
        // Feeding is dear in calls: a run has room for few texts, so shorter ones are better.
        for (int i = 0; i < text.length() && calls < CALLS - 1 && !isWrong; i++) {
            feed(text.charAt(i));
        }
        if (calls < CALLS) {
            same("library()", x.library(), y.library());
        }
    }

    private void callOne() {
        if (random.nextInt(3) > 0) {
            callOften();
        } else {
            callSeldom();
        }
    }

    private void callOften() {
        int p = near(0, 5);
        int l = near(0, 3);
        int n = near(0, 60);
        int few = near(1, 20);
        int what;
        switch (random.nextInt(14)) {
            case 0: what = near(0, 4); same("of(" + p + ", " + what + ")", x.of(p, what), y.of(p, what)); break;
            case 1: what = near(0, 6); same("sheet(" + l + ", " + what + ")", x.sheet(l, what), y.sheet(l, what)); break;
            case 2: same("gap(" + l + ")", x.gap(l), y.gap(l)); break;
            case 3: case 4: hold(l, p, near(0, 5)); break;
            case 5: what = near(0, 99); same("walk(" + p + ", " + what + ")", x.walk(p, what), y.walk(p, what)); break;
            case 6: what = near(0, 4); same("told(" + what + ")", x.told(what), y.told(what)); break;
            case 7: what = random.nextInt(3) == 0 ? n : near(0, 4); same("pass(" + what + ")", x.pass(what), y.pass(what)); break;
            case 8: what = random.nextBoolean() ? near(0, 2) : near(10, 15); same("on(" + n + ", " + what + ")", x.on(n, what), y.on(n, what)); break;
            case 9: what = near(0, 5); same("meets(" + p + ", " + what + ")", x.meets(p, what), y.meets(p, what)); break;
            case 10: what = near(0, 1); same("best(" + few + ", " + what + ")", x.best(few, what), y.best(few, what)); break;
            case 11: what = near(0, 1); same("can(" + p + ", " + what + ")", x.can(p, what), y.can(p, what)); break;
            case 12: what = near(0, 1); same("odds(" + l + ", " + few + ", " + what + ")", x.odds(l, few, what), y.odds(l, few, what)); break;
            default: what = near(0, 1); same("mean(" + n + ", " + what + ")", x.mean(n, what), y.mean(n, what)); break;
        }
    }

    private void callSeldom() {
        int p = near(0, 5);
        int l = near(0, 3);
        int t = near(0, 5);
        int what;
        int n;
        switch (random.nextInt(22)) {
            case 0: one(near(0, 6), near(0, 9), near(0, 99)); break;
            case 1: leaf(near(1, 40)); break;
            case 2: same("free(" + l + ")", x.free(l), y.free(l)); break;
            case 3: what = near(0, 3); n = near(0, 9); same("row(" + p + ", " + what + ", " + n + ")", x.row(p, what, n), y.row(p, what, n)); break;
            case 4: feed(near(0, 127)); break;
            case 5: case 6: see(); break;
            case 7: case 8: what = near(0, 3); n = near(0, 5); same("plan(" + what + ", " + n + ")", x.plan(what, n), y.plan(what, n)); break;
            case 9: what = near(0, 1); same("ends(" + what + ")", x.ends(what), y.ends(what)); break;
            case 10: n = random.nextBoolean() ? y.of(p, 2) : near(0, 99); same("book(" + p + ", " + n + ")", x.book(p, n), y.book(p, n)); break;
            case 11: same("looked()", x.looked(), y.looked()); break;
            case 12: judge(); break;
            case 13: if (random.nextBoolean()) { same("image()", x.image(), y.image()); } break;
            case 14: if (random.nextInt(3) == 0) { same("undo()", x.undo(), y.undo()); } break;
            case 15: what = near(0, 2); n = random.nextInt(); n = random.nextBoolean() ? n : n >> 28; same("act(" + p + ", " + what + ", " + n + ")", x.act(p, what, n), y.act(p, what, n)); break;
            case 16: what = near(0, 12); same("trace(" + what + ")", x.trace(what), y.trace(what)); break;
            case 17: what = near(0, 6); same("taken(" + p + ", " + what + ")", x.taken(p, what), y.taken(p, what)); break;
            case 18: what = near(0, 7); same("count(" + what + ")", x.count(what), y.count(what)); break;
            case 19: what = near(-1, 4); n = near(0, random.nextBoolean() ? 60 : 5); same("tape(" + t + ", " + what + ", " + n + ")", x.tape(t, what, n), y.tape(t, what, n)); break;
            case 20: item(t); break;
            default: shift(t); break;
        }
    }

    /** Half of them as it will be, so that LENGTHS and CAN often have answers. */
    private void see() {
        int l = near(0, 3);
        int n = near(0, 12);
        boolean is = random.nextBoolean();
        if (random.nextBoolean() && l >= 0 && l < 4 && n >= 0 && n <= 12) {
            is = (y.on(n, 1) >> l & 1) == 1;
        }
        same("see(" + l + ", " + n + ", " + is + ")", x.see(l, n, is), y.see(l, n, is));
    }

    private void judge() {
        int t = near(0, 5);
        int i = near(0, random.nextBoolean() ? 4 : 60);
        if (random.nextBoolean()) {
            int n = random.nextInt(9);
            same("tape(" + t + ", 0, " + n + ")", x.tape(t, 0, n), y.tape(t, 0, n));
            for (int p = 0; p < 6 && calls < CALLS - 1; p++) {
                int v = y.of(p, 2) + (random.nextInt(12) == 0 ? 1 : 0);
                same("item(" + t + ", " + (i + p) + ", " + v + ")", x.item(t, i + p, v), y.item(t, i + p, v));
            }
        }
        same("judge(" + t + ", " + i + ")", x.judge(t, i), y.judge(t, i));
    }

    private void item(int t) {
        int i = near(0, random.nextBoolean() ? 4 : 59);
        long v = random.nextInt(4) == 0 ? 0 : random.nextLong() >> random.nextInt(64);
        same("item(" + t + ", " + i + ", " + v + ")", x.item(t, i, v), y.item(t, i, v));
        if (calls < CALLS) {
            same("read(" + t + ", " + i + ")", x.read(t, i), y.read(t, i));
        }
    }

    private void shift(int t) {
        int other = random.nextInt(3) == 0 ? t : near(0, 5);
        int i = near(0, random.nextBoolean() ? 3 : 60);
        int j = near(0, random.nextBoolean() ? 3 : 60);
        int n = near(0, random.nextBoolean() ? 3 : 60);
        same("shift(" + t + ", " + i + ", " + other + ", " + j + ", " + n + ")", x.shift(t, i, other, j, n), y.shift(t, i, other, j, n));
        for (int k = 0; k < 4 && calls < CALLS; k++) {
            same("read(" + other + ", " + (j + k) + ")", x.read(other, j + k), y.read(other, j + k));
        }
    }
}
