import java.math.BigInteger;
import java.util.ArrayList;
import java.util.Arrays;
import java.util.Comparator;
import java.util.HashMap;
import java.util.HashSet;
import java.util.List;
import java.util.Map;
import java.util.Set;
import java.util.function.UnaryOperator;

/**
 * The document said a second time, in another way than the class: with the Java library, with classes
 * that inherit as the KINDS do, with a FAULT that is found by following all beginnings at once.
 */
final class PlainModel {
    private static final int NONE = -1, BAD = -2, STATE = -3, FULL = -4, NIL = -5;
    private static final long NO = Long.MIN_VALUE;

    // ---- libraries

    interface Holds {
        boolean of(World w, One one);
    }

    record Clause(String word, int n, Holds when) { }

    record Library(List<Clause> clauses) {
        int bear() {
            int bear = 6;
            for (Clause c : clauses) {
                if (c.word.equals("bear")) {
                    bear = c.n;
                }
            }
            return bear;
        }
    }

    /** All beginnings of libraries, followed sign by sign: a state is what still has to come, as a text of symbols. */
    static final class Beginnings {
        private static final Map<Character, List<String>> RULES = new HashMap<>();
        private static final char START = 0x4000, CLAUSE = 0x4100, NUMBER = 0x4200, TEST = 0x4300;

        private static char e(int depth) {
            return (char) (0x5000 + depth);
        }

        private static char t(int depth) {
            return (char) (0x5100 + depth);
        }

        private static char f(int depth) {
            return (char) (0x5200 + depth);
        }

        static {
            for (int left = 9; left >= 0; left--) {
                String one = "" + CLAUSE;
                RULES.put((char) (START + left), left == 0 ? List.of(one) : List.of(one, one + ";" + (char) (START + left - 1)));
            }
            RULES.put(CLAUSE, List.of("up " + NUMBER + " " + e(0), "down " + NUMBER + " " + e(0), "bear " + NUMBER));
            List<String> numbers = new ArrayList<>();
            for (int n = 0; n <= 9; n++) {
                numbers.add("" + n);
                for (int m = 0; m <= 9; m++) {
                    numbers.add("" + n + m);
                }
            }
            RULES.put(NUMBER, numbers);
            List<String> tests = new ArrayList<>();
            for (char letter : "pkvxjs".toCharArray()) {
                for (char compare : "<=>".toCharArray()) {
                    tests.add("" + letter + compare + NUMBER);
                }
            }
            RULES.put(TEST, tests);
            for (int d = 0; d <= 4; d++) {
                RULES.put(e(d), List.of("" + t(d), t(d) + "|" + e(d)));
                RULES.put(t(d), List.of("" + f(d), f(d) + "&" + t(d)));
                RULES.put(f(d), d == 4 ? List.of("" + TEST) : List.of("" + TEST, "!" + f(d + 1), "(" + e(d + 1) + ")"));
            }
        }

        /** What begins with a sign of its own, or nothing. */
        private static void open(String state, Set<String> into, Set<String> seen) {
            if (!seen.add(state)) {
                return;
            }
            if (state.isEmpty() || !RULES.containsKey(state.charAt(0))) {
                into.add(state);
                return;
            }
            for (String rule : RULES.get(state.charAt(0))) {
                open(rule + state.substring(1), into, seen);
            }
        }

        private static Set<String> opened(Set<String> states) {
            Set<String> into = new HashSet<>();
            Set<String> seen = new HashSet<>();
            for (String s : states) {
                open(s, into, seen);
            }
            return into;
        }

        /** The FAULT, or -1: the text is a library. */
        static int fault(String text) {
            Set<String> states = opened(Set.of("" + (char) (START + 9)));
            for (int i = 0; i < text.length(); i++) {
                Set<String> next = new HashSet<>();
                for (String s : states) {
                    if (!s.isEmpty() && s.charAt(0) == text.charAt(i)) {
                        next.add(s.substring(1));
                    }
                }
                if (next.isEmpty()) {
                    return i;
                }
                states = opened(next);
            }
            return states.contains("") ? -1 : text.length();
        }
    }

    private static Library libraryOf(String text) {
        List<Clause> clauses = new ArrayList<>();
        for (String c : text.split(";")) {
            String[] parts = c.split(" ");
            clauses.add(new Clause(parts[0], Integer.parseInt(parts[1]), parts.length > 2 ? holdsOf(parts[2]) : null));
        }
        return new Library(clauses);
    }

    private static List<String> splitOutside(String e, char by) {
        List<String> parts = new ArrayList<>();
        int depth = 0;
        StringBuilder part = new StringBuilder();
        for (char c : e.toCharArray()) {
            depth += c == '(' ? 1 : c == ')' ? -1 : 0;
            if (c == by && depth == 0) {
                parts.add(part.toString());
                part.setLength(0);
            } else {
                part.append(c);
            }
        }
        parts.add(part.toString());
        return parts;
    }

    private static Holds holdsOf(String e) {
        List<String> any = splitOutside(e, '|');
        if (any.size() > 1) {
            List<Holds> parts = any.stream().map(PlainModel::holdsOf).toList();
            return (w, one) -> parts.stream().anyMatch(h -> h.of(w, one));
        }
        List<String> all = splitOutside(e, '&');
        if (all.size() > 1) {
            List<Holds> parts = all.stream().map(PlainModel::holdsOf).toList();
            return (w, one) -> parts.stream().allMatch(h -> h.of(w, one));
        }
        if (e.charAt(0) == '!') {
            Holds not = holdsOf(e.substring(1));
            return (w, one) -> !not.of(w, one);
        }
        if (e.charAt(0) == '(') {
            return holdsOf(e.substring(1, e.length() - 1));
        }
        int n = Integer.parseInt(e.substring(2));
        char letter = e.charAt(0);
        char compare = e.charAt(1);
        return (w, one) -> {
            int value = switch (letter) {
                case 'p' -> one.i;
                case 'k' -> one.kind();
                case 'v' -> one.v;
                case 'x' -> one.place / 10;
                case 'j' -> w.heldBy(one.i);
                default -> w.step % 10;
            };
            return compare == '<' ? value < n : compare == '>' ? value > n : value == n;
        };
    }

    // ---- people

    static class One {
        int i;
        int v;
        int place;
        int[] row = new int[4];
        List<Integer> trace = new ArrayList<>();

        int kind() {
            return 0;
        }

        int sum(World w) {
            int sum = 0;
            if (w.library != null) {
                for (Clause c : w.library.clauses) {
                    if (c.when != null && c.when.of(w, this)) {
                        sum += c.word.equals("up") ? c.n : -c.n;
                    }
                }
            }
            return sum;
        }

        int drift(World w) {
            return sum(w);
        }

        int bows(int x) {
            trace.add(10);
            return x + i;
        }

        int tugs(int x) {
            trace.add(11);
            return bows(x) - v;
        }

        int tells(int x) {
            trace.add(12);
            return tugs(x) * 2;
        }
    }

    static class Reader extends One {
        @Override int kind() {
            return 1;
        }

        @Override int drift(World w) {
            return w.heldBy(i) > 0 ? sum(w) + v : sum(w);
        }

        @Override int tugs(int x) {
            trace.add(20);
            return super.tugs(x) ^ 6;
        }
    }

    static class Clerk extends One {
        @Override int kind() {
            return 2;
        }

        @Override int drift(World w) {
            int sum = sum(w);
            return sum < 0 ? -(-sum / 2) : sum / 2;
        }

        @Override int bows(int x) {
            trace.add(30);
            return super.bows(x * 3);
        }
    }

    static class Walker extends One {
        @Override int kind() {
            return 3;
        }

        @Override int drift(World w) {
            return w.step % 8 < 4 ? sum(w) : 0 - sum(w);
        }

        @Override int tells(int x) {
            trace.add(40);
            return super.tells(x) + tugs(1);
        }
    }

    static class Dreamer extends Reader {
        @Override int kind() {
            return 4;
        }

        @Override int drift(World w) {
            return w.step % 2 == 1 ? super.drift(w) : 0;
        }

        @Override int bows(int x) {
            trace.add(50);
            return -super.bows(x);
        }

        @Override int tugs(int x) {
            trace.add(51);
            return super.tugs(x + 1);
        }
    }

    static class Porter extends Clerk {
        @Override int kind() {
            return 5;
        }

        @Override int drift(World w) {
            return super.drift(w) + w.heldBy(i);
        }

        @Override int tells(int x) {
            trace.add(60);
            return super.tells(x - i);
        }
    }

    static class Told extends Walker {
        @Override int kind() {
            return 6;
        }

        @Override int drift(World w) {
            return super.drift(w) + row[w.step % 4] - 4;
        }

        @Override int tugs(int x) {
            trace.add(70);
            return super.tugs(x) + super.bows(2);
        }

        @Override int bows(int x) {
            trace.add(71);
            return super.bows(x) ^ v;
        }
    }

    private static One ofKind(int kind) {
        return switch (kind) {
            case 0 -> new One();
            case 1 -> new Reader();
            case 2 -> new Clerk();
            case 3 -> new Walker();
            case 4 -> new Dreamer();
            case 5 -> new Porter();
            default -> new Told();
        };
    }

    private static final List<Class<?>> CLASSES = List.of(
        One.class, Reader.class, Clerk.class, Walker.class, Dreamer.class, Porter.class, Told.class);

    // ---- how all is

    /** held: null, or the first and the second. */
    record Leaf(int length, int[] held) {
        boolean by(int p) {
            return held != null && (held[0] == p || held[1] == p);
        }

        Leaf loose() {
            return new Leaf(length, null);
        }
    }

    record Row(int a, int b, boolean is) { }

    static final class World {
        List<One> people = new ArrayList<>();
        List<Leaf> leaves = new ArrayList<>();
        int drops;
        int step;
        Library library;
        List<Row> seen = new ArrayList<>();
        List<Row> plan = new ArrayList<>();
        List<Row> book = new ArrayList<>();

        World copy() {
            World w = new World();
            for (One one : people) {
                One c = ofKind(one.kind());
                c.i = one.i;
                c.v = one.v;
                c.place = one.place;
                c.row = one.row.clone();
                w.people.add(c);
            }
            w.leaves.addAll(leaves);
            w.drops = drops;
            w.step = step;
            w.library = library;
            w.seen.addAll(seen);
            w.plan.addAll(plan);
            w.book.addAll(book);
            return w;
        }

        int heldBy(int p) {
            return (int) leaves.stream().filter(l -> l.by(p)).count();
        }

        int bear() {
            return library == null ? 6 : library.bear();
        }

        int gap(int leaf) {
            Leaf l = leaves.get(leaf);
            return Math.abs(people.get(l.held[0]).place - people.get(l.held[1]).place) - l.length;
        }

        boolean held(int leaf) {
            return leaves.get(leaf).held != null;
        }

        boolean taut(int leaf) {
            return held(leaf) && gap(leaf) > 0;
        }

        int tautBits() {
            int bits = 0;
            for (int l = 0; l < leaves.size(); l++) {
                bits += taut(l) ? 1 << l : 0;
            }
            return bits;
        }

        int heldBits() {
            int bits = 0;
            for (int l = 0; l < leaves.size(); l++) {
                bits += held(l) ? 1 << l : 0;
            }
            return bits;
        }

        int together() {
            return people.stream().mapToInt(p -> p.place).sum();
        }

        void loosen(int leaf) {
            leaves.set(leaf, leaves.get(leaf).loose());
        }

        World go(int n) {
            for (int i = 0; i < n; i++) {
                go();
            }
            return this;
        }

        private void go() {
            World before = copy();
            for (One one : people) {
                one.place += before.people.get(one.i).drift(before);
                one.place = one.place < 0 ? 0 : one.place > 99 ? 99 : one.place;
            }
            for (int l = 0; l < leaves.size(); l++) {
                if (!taut(l)) {
                    continue;
                }
                if (gap(l) > bear()) {
                    loosen(l);
                    drops++;
                    continue;
                }
                One a = people.get(leaves.get(l).held[0]);
                One b = people.get(leaves.get(l).held[1]);
                One low = a.place < b.place ? a : b;
                One high = low == a ? b : a;
                low.place++;
                high.place--;
            }
            step++;
        }

        World with(UnaryOperator<World> change) {
            return change.apply(copy());
        }

        boolean isSeenSo() {
            for (Row r : seen) {
                if (copy().go(r.b).taut(r.a) != r.is) {
                    return false;
                }
            }
            return true;
        }

        /** 1000 where it isn't let go by 60. */
        int lasts(int leaf) {
            World w = copy();
            for (int n = 1; n <= 60; n++) {
                if (!w.go(1).held(leaf)) {
                    return n;
                }
            }
            return 1000;
        }
    }

    private World w = new World();
    private World image;
    private final StringBuilder text = new StringBuilder();
    private final List<Library> libraries = new ArrayList<>();
    private List<Integer> trace = new ArrayList<>();
    private final Object[] tapes = new Object[6];

    private boolean noPerson(int p) {
        return p < 0 || p >= w.people.size();
    }

    private boolean noLeaf(int l) {
        return l < 0 || l >= w.leaves.size();
    }

    private static boolean out(int n, int least, int most) {
        return n < least || n > most;
    }

    int one(int kind, int v, int spot) {
        if (out(kind, 0, 6)) return NONE;
        if (out(v, 0, 9) || out(spot, 0, 99)) return BAD;
        if (w.people.size() == 6) return FULL;
        One one = ofKind(kind);
        one.i = w.people.size();
        one.v = v;
        one.place = spot;
        w.people.add(one);
        return one.i;
    }

    int of(int person, int what) {
        if (noPerson(person) || out(what, 0, 4)) return -10001;
        One one = w.people.get(person);
        return List.of(one.kind(), one.v, one.place, w.heldBy(person), one.drift(w)).get(what);
    }

    int leaf(int length) {
        if (out(length, 1, 40)) return BAD;
        if (w.leaves.size() == 4) return FULL;
        w.leaves.add(new Leaf(length, null));
        return w.leaves.size() - 1;
    }

    private List<Integer> lengths(int leaf) {
        List<Integer> all = new ArrayList<>();
        for (int n = 1; n <= 40; n++) {
            Leaf as = new Leaf(n, w.leaves.get(leaf).held);
            World t = w.copy();
            t.leaves.set(leaf, as);
            if (t.isSeenSo()) all.add(n);
        }
        return all;
    }

    private int partner(int leaf) {
        if (!w.held(leaf)) return NIL;
        int[] held = w.leaves.get(leaf).held;
        List<int[]> better = new ArrayList<>();
        for (One one : w.people) {
            if (w.leaves.get(leaf).by(one.i)) continue;
            World t = w.copy();
            t.leaves.set(leaf, new Leaf(w.leaves.get(leaf).length, new int[] {held[0], one.i}));
            if (t.lasts(leaf) > w.lasts(leaf)) better.add(new int[] {-t.lasts(leaf), one.i});
        }
        better.sort(Arrays::compare);
        return better.isEmpty() ? NIL : better.get(0)[1];
    }

    int sheet(int leaf, int what) {
        if (noLeaf(leaf) || out(what, 0, 6)) return NONE;
        Leaf l = w.leaves.get(leaf);
        switch (what) {
            case 0: return l.length;
            case 1: return l.held == null ? NIL : l.held[0];
            case 2: return l.held == null ? NIL : l.held[1];
            case 3: return l.held == null || w.lasts(leaf) == 1000 ? NIL : w.lasts(leaf);
            case 4: return partner(leaf);
            case 5: return lengths(leaf).size();
            default: return lengths(leaf).isEmpty() ? NIL : lengths(leaf).get(0);
        }
    }

    int gap(int leaf) {
        return noLeaf(leaf) ? -10001 : !w.held(leaf) ? -10003 : w.gap(leaf);
    }

    int hold(int leaf, int person, int other) {
        if (noLeaf(leaf) || noPerson(person) || noPerson(other)) return NONE;
        if (person == other) return BAD;
        w.leaves.set(leaf, new Leaf(w.leaves.get(leaf).length, new int[] {person, other}));
        return w.taut(leaf) ? 1 : 0;
    }

    int free(int leaf) {
        if (noLeaf(leaf)) return NONE;
        if (!w.held(leaf)) return STATE;
        int second = w.leaves.get(leaf).held[1];
        w.loosen(leaf);
        return second;
    }

    int walk(int person, int spot) {
        if (noPerson(person)) return NONE;
        if (out(spot, 0, 99)) return BAD;
        int was = w.people.get(person).place;
        w.people.get(person).place = spot;
        return was;
    }

    int row(int person, int part, int n) {
        if (noPerson(person) || out(part, 0, 3)) return NONE;
        if (out(n, 0, 9)) return BAD;
        if (!(w.people.get(person) instanceof Told)) return STATE;
        int was = w.people.get(person).row[part];
        w.people.get(person).row[part] = n;
        return was;
    }

    int feed(int sign) {
        if (out(sign, 0, 127)) return BAD;
        if (text.length() == 100) return FULL;
        return text.append((char) sign).length();
    }

    int library() {
        if (libraries.size() == 6) return FULL;
        String all = text.toString();
        text.setLength(0);
        int fault = Beginnings.fault(all);
        if (fault >= 0) return -10 - fault;
        w.library = libraryOf(all);
        libraries.add(w.library);
        return libraries.size() - 1;
    }

    int told(int what) {
        if (out(what, 0, 4)) return NONE;
        return List.of(w.step, w.bear(), w.drops, w.tautBits(), w.heldBits()).get(what);
    }

    int pass(int n) {
        if (out(n, 0, 60)) return BAD;
        if (w.step + n > 9999) return STATE;
        for (int i = 0; i < n; i++) {
            w.go(1);
            if (w.drops > 9999) w.drops = 9999;
        }
        return w.step;
    }

    int on(int n, int what) {
        if (out(what, 0, 2) && out(what, 10, 9 + w.people.size())) return NONE;
        if (out(n, 0, 60)) return BAD;
        World t = w.copy().go(n);
        return what == 0 ? t.drops : what == 1 ? t.tautBits() : what == 2 ? t.heldBits() : t.people.get(what - 10).place;
    }

    int meets(int person, int other) {
        if (noPerson(person) || noPerson(other)) return NONE;
        if (person == other) return BAD;
        for (int n = 0; n <= 60; n++) {
            World t = w.copy().go(n);
            if (t.people.get(person).place == t.people.get(other).place) return n;
        }
        return NIL;
    }

    int best(int n, int what) {
        if (out(what, 0, 1)) return NONE;
        if (out(n, 1, 20)) return BAD;
        return what == 0 ? change(n) : spare(n);
    }

    private int change(int n) {
        List<int[]> better = new ArrayList<>();
        int asItIs = w.copy().go(n).drops;
        for (int a = 0; a < w.people.size(); a++) {
            for (int b = a + 1; b < w.people.size(); b++) {
                World t = w.copy();
                t.people.get(a).place = w.people.get(b).place;
                t.people.get(b).place = w.people.get(a).place;
                int drops = t.go(n).drops;
                if (drops < asItIs) better.add(new int[] {drops, 10 * a + b});
            }
        }
        better.sort(Arrays::compare);
        return better.isEmpty() ? NIL : better.get(0)[1];
    }

    private int spare(int n) {
        List<Integer> sets = new ArrayList<>();
        for (int set = 0; set < 16; set++) {
            if ((set | w.heldBits()) != w.heldBits()) continue;
            World t = w.copy();
            for (int l = 0; l < t.leaves.size(); l++) {
                if ((set >> l) % 2 == 0) t.loosen(l);
            }
            if (t.go(n).drops > w.drops) sets.add(set);
        }
        return sets.stream().min(Comparator.<Integer>comparingInt(Integer::bitCount).thenComparing(s -> s)).orElse(NIL);
    }

    int see(int leaf, int n, boolean isTaut) {
        if (leaf == -1) {
            w.seen.clear();
            return 0;
        }
        if (noLeaf(leaf)) return NONE;
        if (out(n, 0, 12)) return BAD;
        if (w.seen.size() == 5) return FULL;
        w.seen.add(new Row(leaf, n, isTaut));
        return w.seen.size();
    }

    int can(int person, int what) {
        if (noPerson(person) || out(what, 0, 1)) return NONE;
        List<Integer> all = new ArrayList<>();
        for (int v = 0; v <= 9; v++) {
            World t = w.copy();
            t.people.get(person).v = v;
            if (t.isSeenSo()) all.add(v);
        }
        return what == 0 ? all.size() : all.isEmpty() ? NIL : all.get(0);
    }

    private static long lowest(int above, int below, int part) {
        BigInteger gcd = BigInteger.valueOf(above).gcd(BigInteger.valueOf(below));
        return BigInteger.valueOf(part == 0 ? above : below).divide(gcd).longValue();
    }

    long odds(int leaf, int n, int part) {
        if (noLeaf(leaf) || out(n, 0, 20) || out(part, 0, 1) || w.people.size() < 2) return NO;
        int all = 0;
        int good = 0;
        for (int a = 0; a < w.people.size(); a++) {
            for (int b = 0; b < w.people.size(); b++) {
                if (a == b) continue;
                World t = w.copy();
                t.leaves.set(leaf, new Leaf(t.leaves.get(leaf).length, new int[] {a, b}));
                all++;
                good += t.go(n).held(leaf) ? 1 : 0;
            }
        }
        return lowest(good, all, part);
    }

    long mean(int n, int part) {
        if (out(n, 0, 60) || out(part, 0, 1) || w.people.isEmpty()) return NO;
        return lowest(w.copy().go(n).together(), w.people.size(), part);
    }

    int plan(int what, int n) {
        if (what == -1) {
            w.plan.clear();
            return 0;
        }
        if (out(what, 0, 3) || (what == 1 || what == 2) && noLeaf(n) || what == 3 && noPerson(n)) return NONE;
        if (w.plan.size() == 10) return FULL;
        w.plan.add(new Row(what, n, true));
        return w.plan.size();
    }

    int ends(int what) {
        if (out(what, 0, 1)) return NONE;
        World t = w.copy();
        for (Row r : w.plan) {
            if (r.a == 0) t.go(1);
            if (r.a == 1) t.loosen(r.b);
            if (r.a == 2) t.leaves.set(r.b, new Leaf(40, t.leaves.get(r.b).held));
            if (r.a == 3) t.people.get(r.b).place = 0;
        }
        return what == 0 ? t.drops : t.together();
    }

    int book(int person, int spot) {
        if (person == -1) {
            w.book.clear();
            return 0;
        }
        if (noPerson(person)) return NONE;
        if (out(spot, 0, 99)) return BAD;
        if (w.book.size() == 8) return FULL;
        w.book.add(new Row(person, spot, true));
        return w.book.size();
    }

    int looked() {
        for (Row r : w.book) {
            if (w.people.get(r.a).place != r.b) return w.book.indexOf(r);
        }
        return NIL;
    }

    int judge(int tape, int i) {
        if (out(tape, 0, 5)) return NONE;
        if (tapes[tape] != null && !(tapes[tape] instanceof byte[])) return -12;
        if (w.people.isEmpty()) return NIL;
        byte[] row = (byte[]) tapes[tape];
        if (row == null || i < 0 || i > row.length) return 100;
        byte[] rest = Arrays.copyOfRange(row, i, row.length);
        for (int k = 0; k < w.people.size(); k++) {
            if (k == rest.length) return 100 + k;
            if (rest[k] != w.people.get(k).place) return k;
        }
        return NIL;
    }

    int image() {
        image = w.copy();
        return w.people.size();
    }

    int undo() {
        if (image == null) return STATE;
        w = image.copy();
        return w.people.size();
    }

    int act(int person, int act, int x) {
        trace = new ArrayList<>();
        if (noPerson(person) || out(act, 0, 2)) return 0;
        One one = w.people.get(person);
        one.trace = trace;
        return act == 0 ? one.bows(x) : act == 1 ? one.tugs(x) : one.tells(x);
    }

    int trace(int i) {
        return i < 0 || i >= Math.min(20, trace.size()) ? NONE : trace.get(i);
    }

    int taken(int person, int k) {
        if (out(k, 0, 6)) return BAD;
        if (noPerson(person)) return -11;
        One one = w.people.get(person);
        return CLASSES.get(k).isInstance(one) ? one.kind() : -12;
    }

    int count(int what) {
        if (out(what, 0, 7)) return BAD;
        return List.of(w.people.size(), w.leaves.size(), libraries.size(), w.seen.size(), w.plan.size(),
            w.book.size(), text.length(), trace.size()).get(what);
    }

    int tape(int tape, int sort, int n) {
        if (out(tape, 0, 5)) return NONE;
        if (sort == -1) {
            tapes[tape] = null;
            return 1;
        }
        if (out(sort, 0, 4) || n > 60) return BAD;
        if (n < 0) return -14;
        tapes[tape] = switch (sort) {
            case 0 -> new byte[n];
            case 1 -> new short[n];
            case 2 -> new int[n];
            case 3 -> new long[n];
            default -> new boolean[n];
        };
        return 1;
    }

    int item(int tape, int i, long v) {
        if (out(tape, 0, 5)) return NONE;
        Object row = tapes[tape];
        if (row == null) return -11;
        if (out(i, 0, java.lang.reflect.Array.getLength(row) - 1)) return -13;
        if (row instanceof byte[] b) b[i] = (byte) v;
        if (row instanceof short[] s) s[i] = (short) v;
        if (row instanceof int[] n) n[i] = (int) v;
        if (row instanceof long[] l) l[i] = v;
        if (row instanceof boolean[] t) t[i] = v != 0;
        return 1;
    }

    long read(int tape, int i) {
        if (out(tape, 0, 5) || tapes[tape] == null) return NO;
        Object row = tapes[tape];
        if (out(i, 0, java.lang.reflect.Array.getLength(row) - 1)) return NO;
        if (row instanceof boolean[] t) return t[i] ? 1 : 0;
        return java.lang.reflect.Array.getLong(row, i);
    }

    int shift(int tape, int i, int other, int j, int n) {
        if (out(tape, 0, 5) || out(other, 0, 5)) return NONE;
        if (tapes[tape] == null || tapes[other] == null) return -11;
        if (tapes[tape].getClass() != tapes[other].getClass()) return -12;
        try {
            System.arraycopy(tapes[tape], i, tapes[other], j, n);
        } catch (IndexOutOfBoundsException e) {
            return -13;
        }
        return n;
    }
}
