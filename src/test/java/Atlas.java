import java.util.ArrayList;
import java.util.List;

/** An AtlasEnds that keeps each call with its answer: a test that goes wrong tells them, and none makes a 513th. */
final class Atlas {
    private static final int CALLS_MOST = 512;
    private static Atlas latest;

    private final AtlasEnds x = new AtlasEnds();
    private final List<String> said = new ArrayList<>();

    /** The calls on the object that was called last, each with its answer. */
    static List<String> lastSaid() {
        return latest == null ? List.of() : latest.said;
    }

    List<String> said() {
        return said;
    }

    /** Feeds the text, and answers what library() answers. */
    int library(String text) {
        feedAll(text);
        return library();
    }

    void feedAll(String text) {
        for (int i = 0; i < text.length(); i++) {
            feed(text.charAt(i));
        }
    }

    /** People of KIND 0 and v 0 come to these PLACES. */
    static Atlas ones(int... places) {
        Atlas a = new Atlas();
        for (int place : places) {
            a.one(0, 0, place);
        }
        return a;
    }

    /** A TAPE becomes a row of this sort with these items. */
    void tapeOf(int tape, int sort, long... items) {
        tape(tape, sort, items.length);
        for (int i = 0; i < items.length; i++) {
            item(tape, i, items[i]);
        }
    }

    private long kept(long answer, String call, Object... with) {
        StringBuilder s = new StringBuilder(call).append('(');
        for (int i = 0; i < with.length; i++) {
            s.append(i == 0 ? "" : ", ").append(with[i]);
        }
        said.add(s.append(") = ").append(answer).toString());
        latest = this;
        if (said.size() > CALLS_MOST) {
            throw new IllegalStateException("the test makes more than " + CALLS_MOST + " calls");
        }
        return answer;
    }

    private int kept(int answer, String call, Object... with) {
        return (int) kept((long) answer, call, with);
    }

    int one(int kind, int v, int spot) {
        return kept(x.one(kind, v, spot), "one", kind, v, spot);
    }

    int of(int person, int what) {
        return kept(x.of(person, what), "of", person, what);
    }

    int leaf(int length) {
        return kept(x.leaf(length), "leaf", length);
    }

    int sheet(int leaf, int what) {
        return kept(x.sheet(leaf, what), "sheet", leaf, what);
    }

    int gap(int leaf) {
        return kept(x.gap(leaf), "gap", leaf);
    }

    int hold(int leaf, int person, int other) {
        return kept(x.hold(leaf, person, other), "hold", leaf, person, other);
    }

    int free(int leaf) {
        return kept(x.free(leaf), "free", leaf);
    }

    int walk(int person, int spot) {
        return kept(x.walk(person, spot), "walk", person, spot);
    }

    int row(int person, int part, int n) {
        return kept(x.row(person, part, n), "row", person, part, n);
    }

    int feed(int sign) {
        return kept(x.feed(sign), "feed", sign);
    }

    int library() {
        return kept(x.library(), "library");
    }

    int told(int what) {
        return kept(x.told(what), "told", what);
    }

    int pass(int n) {
        return kept(x.pass(n), "pass", n);
    }

    int on(int n, int what) {
        return kept(x.on(n, what), "on", n, what);
    }

    int meets(int person, int other) {
        return kept(x.meets(person, other), "meets", person, other);
    }

    int best(int n, int what) {
        return kept(x.best(n, what), "best", n, what);
    }

    int see(int leaf, int n, boolean isTaut) {
        return kept(x.see(leaf, n, isTaut), "see", leaf, n, isTaut);
    }

    int can(int person, int what) {
        return kept(x.can(person, what), "can", person, what);
    }

    long odds(int leaf, int n, int part) {
        return kept(x.odds(leaf, n, part), "odds", leaf, n, part);
    }

    long mean(int n, int part) {
        return kept(x.mean(n, part), "mean", n, part);
    }

    int plan(int what, int n) {
        return kept(x.plan(what, n), "plan", what, n);
    }

    int ends(int what) {
        return kept(x.ends(what), "ends", what);
    }

    int book(int person, int spot) {
        return kept(x.book(person, spot), "book", person, spot);
    }

    int looked() {
        return kept(x.looked(), "looked");
    }

    int judge(int tape, int i) {
        return kept(x.judge(tape, i), "judge", tape, i);
    }

    int image() {
        return kept(x.image(), "image");
    }

    int undo() {
        return kept(x.undo(), "undo");
    }

    int act(int person, int act, int with) {
        return kept(x.act(person, act, with), "act", person, act, with);
    }

    int trace(int i) {
        return kept(x.trace(i), "trace", i);
    }

    int taken(int person, int k) {
        return kept(x.taken(person, k), "taken", person, k);
    }

    int count(int what) {
        return kept(x.count(what), "count", what);
    }

    int tape(int tape, int sort, int n) {
        return kept(x.tape(tape, sort, n), "tape", tape, sort, n);
    }

    int item(int tape, int i, long v) {
        return kept(x.item(tape, i, v), "item", tape, i, v);
    }

    long read(int tape, int i) {
        return kept(x.read(tape, i), "read", tape, i);
    }

    int shift(int tape, int i, int other, int j, int n) {
        return kept(x.shift(tape, i, other, j, n), "shift", tape, i, other, j, n);
    }
}
