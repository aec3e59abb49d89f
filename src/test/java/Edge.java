import java.util.ArrayList;
import java.util.List;
import java.util.function.Consumer;
import java.util.function.Supplier;

/** What the tests of boundary cases share: the answers' names, what is due, and that a call changed nothing. */
abstract class Edge {
    static final int LEAST = Integer.MIN_VALUE, MOST = Integer.MAX_VALUE;
    static final int NONE = -1, BAD = -2, STATE = -3, FULL = -4, NOT_ANY = -5;
    static final int NOTHING = -11, CAST = -12, PLACE = -13, SIZE = -14;
    static final int LOW_NONE = -10001, LOW_STATE = -10003;
    static final long NO = Long.MIN_VALUE;

    private static final List<String> wrong = new ArrayList<>();
    private static int asked;

    /** The answer that is due, and the one that the call made just now gave. */
    static void is(long want, long got) {
        asked++;
        if (want != got) {
            List<String> said = Atlas.lastSaid();
            wrong.add("call " + said.size() + ", " + (said.isEmpty() ? got : said.get(said.size() - 1)) + ", due is " + want);
        }
    }

    /** What was wrong since this was asked last; a test that asked nothing is wrong as well. */
    static List<String> takeWrong() {
        List<String> all = new ArrayList<>(wrong);
        if (asked == 0) {
            all.add("it asked nothing");
        }
        wrong.clear();
        asked = 0;
        return all;
    }

    /** The nearest numbers on both sides of these limits, and the ends of int. */
    static int[] outside(int least, int most) {
        return new int[] {least - 1, most + 1, LEAST, MOST};
    }

    /** Two are made alike, one is called so: behind that, both answer all calls alike. */
    static void changesNothing(Supplier<Atlas> made, Consumer<Atlas> calls) {
        Atlas touched = made.get();
        Atlas left = made.get();
        calls.accept(touched);
        alike(touched, left);
    }

    /** Both answer all calls alike from now on. */
    static void alike(Atlas touched, Atlas left) {
        asked++;
        int from = touched.said().size();
        int leftFrom = left.said().size();
        Probe.of(touched);
        Probe.of(left);
        for (int i = 0; from + i < touched.said().size(); i++) {
            String got = touched.said().get(from + i);
            String want = left.said().get(leftFrom + i);
            if (!got.equals(want)) {
                wrong.add("behind it, " + got + ", due as without it is " + want);
                return;
            }
        }
    }
}
