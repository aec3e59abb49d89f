import java.io.IOException;
import java.lang.reflect.InvocationTargetException;
import java.lang.reflect.Method;
import java.util.ArrayList;
import java.util.Arrays;
import java.util.Comparator;
import java.util.List;
import java.util.Map;
import java.util.TreeMap;

/**
 * The boundary cases that the document names: each test is of one sentence, which it quotes (see Of). Then the
 * document itself is looked at: each quotation stands there, and what no test quotes names no boundary.
 */
public final class EdgesTest {
    private static final List<Class<?>> ALL = List.of(HallEdges.class, TextEdges.class, AheadEdges.class,
        ByHandEdges.class, ImageEdges.class, PeopleEdges.class, LibraryEdges.class, StepsEdges.class, SeenEdges.class,
        HostEdges.class, TapesEdges.class);

    private EdgesTest() {
    }

    public static void main(String[] args) throws IOException {
        Map<String, List<String>> wrong = runAll();
        wrong.forEach((test, what) -> System.out.println("EdgesTest: " + test + "\n    " + String.join("\n    ", what)));
        List<String> missing = Document.missing(tests());
        missing.forEach(what -> System.out.println("EdgesTest: " + what));
        System.out.println("EdgesTest: " + tests().size() + " tests, " + wrong.size() + " don't hold, "
            + missing.size() + " wrong quotations or sentences without a test");
        if (!wrong.isEmpty() || !missing.isEmpty() || tests().isEmpty()) {
            System.exit(1);
        }
    }

    /** The tests that don't hold, each with what was wrong. */
    static Map<String, List<String>> runAll() {
        Map<String, List<String>> wrong = new TreeMap<>();
        for (Method test : tests()) {
            List<String> what = run(test);
            if (!what.isEmpty()) {
                wrong.put(nameOf(test), what);
            }
        }
        return wrong;
    }

    private static List<Method> tests() {
        List<Method> tests = new ArrayList<>();
        for (Class<?> group : ALL) {
            Method[] methods = group.getDeclaredMethods();
            Arrays.sort(methods, Comparator.comparing(Method::getName));
            for (Method m : methods) {
                if (m.isAnnotationPresent(Of.class)) {
                    tests.add(m);
                }
            }
        }
        return tests;
    }

    private static String nameOf(Method test) {
        Of of = test.getAnnotation(Of.class);
        return test.getDeclaringClass().getName() + "." + test.getName() + ", of " + of.part() + ", \"" + of.says() + "\"";
    }

    private static List<String> run(Method test) {
        List<String> what = new ArrayList<>();
        try {
            test.setAccessible(true);
            test.invoke(null);
        } catch (InvocationTargetException e) {
            what.add("it throws " + e.getCause());
        } catch (IllegalAccessException e) {
            what.add("it can't be run: " + e);
        }
        what.addAll(Edge.takeWrong());
        return what;
    }
}
