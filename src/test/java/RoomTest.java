import java.lang.management.ManagementFactory;
import java.lang.reflect.Array;
import java.lang.reflect.Field;
import java.lang.reflect.Modifier;
import java.util.IdentityHashMap;

/** All calls of a run live in one room: an object is small, and no call makes anything new. */
public final class RoomTest {
    private static final int OBJECTS_MOST = 150, ELEMENTS_MOST = 4000;
    private static final Due due = new Due("RoomTest");

    public static void main(String[] args) throws IllegalAccessException {
        anObjectIsSmall();
        callsMakeNothing();
        due.end();
    }

    private static void anObjectIsSmall() throws IllegalAccessException {
        IdentityHashMap<Object, Integer> found = new IdentityHashMap<>();
        count(new AtlasEnds(), found);
        long elements = found.values().stream().mapToInt(n -> n).sum();
        System.out.println("RoomTest: " + found.size() + " objects, " + elements + " fields and elements");
        due.is("objects are few", found.size() <= OBJECTS_MOST ? 1 : 0, 1);
        due.is("elements are few", elements <= ELEMENTS_MOST ? 1 : 0, 1);
    }

    private static void count(Object o, IdentityHashMap<Object, Integer> found) throws IllegalAccessException {
        if (o == null || found.containsKey(o)) {
            return;
        }
        if (o.getClass().isArray()) {
            found.put(o, Array.getLength(o));
            for (int i = 0; o instanceof Object[] all && i < all.length; i++) {
                count(all[i], found);
            }
            return;
        }
        int fields = 0;
        found.put(o, 0);
        for (Field f : o.getClass().getDeclaredFields()) {
            if (Modifier.isStatic(f.getModifiers())) {
                continue;
            }
            fields++;
            f.setAccessible(true);
            if (!f.getType().isPrimitive()) {
                count(f.get(o), found);
            }
        }
        found.put(o, fields);
    }

    private static void callsMakeNothing() {
        com.sun.management.ThreadMXBean threads = (com.sun.management.ThreadMXBean) ManagementFactory.getThreadMXBean();
        long id = Thread.currentThread().getId();
        int[] text = "up 1 p=0|!(k>1&v<9);down 2 x=4|j>0&s<5;bear 9".chars().toArray();
        long sum = calls(new AtlasEnds(), text);
        AtlasEnds x = new AtlasEnds();
        long before = threads.getThreadAllocatedBytes(id);
        sum += calls(x, text);
        long made = threads.getThreadAllocatedBytes(id) - before;
        System.out.println("RoomTest: " + made + " bytes by all calls (" + sum + ")");
        // Asking how many bytes there are may itself make a few.
        due.is("calls make nothing", made < 500 ? 1 : 0, 1);
    }

    private static long calls(AtlasEnds x, int[] text) {
        long sum = 0;
        for (int p = 0; p < 6; p++) {
            sum += x.one(p + 1, p, p * 15);
        }
        for (int l = 0; l < 4; l++) {
            sum += x.leaf(8 + l) + x.hold(l, l, l + 1) + x.see(l, l, true) + x.plan(1, l) + x.plan(2, l);
        }
        for (int round = 0; round < 6; round++) {
            for (int i = 0; i < text.length; i++) {
                sum += x.feed(text[i]);
            }
            sum += x.library() + x.image() + x.pass(3) + x.undo() + x.looked() + x.best(20, 0) + x.best(20, 1);
            sum += x.row(5, 1, 3) + x.walk(0, round) + x.meets(0, 1) + x.plan(0, 0) + x.ends(1) + x.book(0, 3);
            for (int what = 0; what < 8; what++) {
                sum += x.sheet(0, what) + x.told(what) + x.of(3, what) + x.on(9, what) + x.count(what) + x.act(what, 2, 9);
            }
            sum += x.odds(0, 20, 0) + x.mean(60, 0) + x.can(0, 0) + x.tape(round, 3, 60) + x.item(round, 3, 9);
            sum += x.shift(round, 0, round, 1, 50) + x.read(round, 1) + x.judge(0, 0) + x.trace(0) + x.taken(0, 0) + x.gap(0);
        }
        return sum;
    }
}
