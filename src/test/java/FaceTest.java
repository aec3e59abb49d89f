import java.io.IOException;
import java.lang.reflect.Constructor;
import java.lang.reflect.Field;
import java.lang.reflect.Method;
import java.lang.reflect.Modifier;
import java.lang.reflect.Parameter;
import java.nio.charset.StandardCharsets;
import java.nio.file.Files;
import java.nio.file.Path;
import java.util.ArrayList;
import java.util.List;
import java.util.TreeSet;
import java.util.regex.Matcher;
import java.util.regex.Pattern;

/** "The public face": each constant with its value, the constructor, each method with its types, and no more. */
public final class FaceTest {
    private static final Path FILE = Path.of("../shared/DOC.md");
    private static final Pattern FACE = Pattern.compile("```java\npublic final class AtlasEnds \\{\n(.*?)\n\\}\n```", Pattern.DOTALL);
    /** As the document says it, so that a face is looked at where the document isn't there, too. */
    private static final String SAID = """
            public static final int NONE = -1, BAD = -2, STATE = -3, FULL = -4;
            public static final long NO = Long.MIN_VALUE;
            public AtlasEnds();
            public int one(int kind, int v, int spot);
            public int of(int person, int what);
            public int leaf(int length);
            public int sheet(int leaf, int what);
            public int gap(int leaf);
            public int hold(int leaf, int person, int other);
            public int free(int leaf);
            public int walk(int person, int spot);
            public int row(int person, int part, int n);
            public int feed(int sign);
            public int library();
            public int told(int what);
            public int pass(int n);
            public int on(int n, int what);
            public int meets(int person, int other);
            public int best(int n, int what);
            public int see(int leaf, int n, boolean isTaut);
            public int can(int person, int what);
            public long odds(int leaf, int n, int part);
            public long mean(int n, int part);
            public int plan(int what, int n);
            public int ends(int what);
            public int book(int person, int spot);
            public int looked();
            public int judge(int tape, int i);
            public int image();
            public int undo();
            public int act(int person, int act, int x);
            public int trace(int i);
            public int taken(int person, int k);
            public int count(int what);
            public int tape(int tape, int sort, int n);
            public int item(int tape, int i, long v);
            public long read(int tape, int i);
            public int shift(int tape, int i, int other, int j, int n);
        """;

    private FaceTest() {
    }

    public static void main(String[] args) throws IOException, IllegalAccessException {
        List<String> wrong = new ArrayList<>();
        compare("the class", face(), members(SAID), wrong);
        if (Files.isReadable(FILE)) {
            Matcher face = FACE.matcher(Files.readString(FILE, StandardCharsets.UTF_8));
            compare("this test", members(SAID), face.find() ? members(face.group(1)) : new TreeSet<>(), wrong);
        } else {
            System.out.println("FaceTest: " + FILE + " isn't there, so the face that this test says isn't looked at");
        }
        if (!Modifier.isFinal(AtlasEnds.class.getModifiers()) || !Modifier.isPublic(AtlasEnds.class.getModifiers())) {
            wrong.add("the class is not public and final");
        }
        wrong.forEach(what -> System.out.println("FaceTest: " + what));
        System.out.println("FaceTest: " + members(SAID).size() + " members, " + wrong.size() + " not as the face says");
        if (!wrong.isEmpty()) {
            System.exit(1);
        }
    }

    private static void compare(String who, TreeSet<String> has, TreeSet<String> due, List<String> wrong) {
        due.stream().filter(member -> !has.contains(member)).forEach(member -> wrong.add(who + " has no " + member));
        has.stream().filter(member -> !due.contains(member)).forEach(member -> wrong.add(who + " has " + member));
    }

    /** Members as they are told, each on its own: constants by name, methods by the types of their parameters. */
    private static TreeSet<String> members(String told) {
        TreeSet<String> members = new TreeSet<>();
        for (String line : told.split(";")) {
            String member = line.strip();
            Matcher constants = Pattern.compile("(public static final \\w+) (.*=.*)").matcher(member);
            if (constants.matches()) {
                for (String constant : constants.group(2).split(",")) {
                    members.add(constants.group(1) + " " + constant.strip().replace("Long.MIN_VALUE", "" + Long.MIN_VALUE));
                }
            } else if (!member.isEmpty()) {
                members.add(member.replaceAll("(\\w+) \\w+(?=[,)])", "$1"));
            }
        }
        return members;
    }

    /** All members that are not private, said as the document says them. */
    private static TreeSet<String> face() throws IllegalAccessException {
        TreeSet<String> face = new TreeSet<>();
        for (Field f : AtlasEnds.class.getDeclaredFields()) {
            if (!Modifier.isPrivate(f.getModifiers())) {
                Object value = Modifier.isStatic(f.getModifiers()) ? f.get(null) : "?";
                face.add(Modifier.toString(f.getModifiers()) + " " + f.getType().getName() + " " + f.getName() + " = " + value);
            }
        }
        for (Constructor<?> c : AtlasEnds.class.getDeclaredConstructors()) {
            if (!Modifier.isPrivate(c.getModifiers())) {
                face.add(Modifier.toString(c.getModifiers()) + " AtlasEnds" + types(c.getParameters()));
            }
        }
        for (Method m : AtlasEnds.class.getDeclaredMethods()) {
            if (!Modifier.isPrivate(m.getModifiers()) && !m.isSynthetic()) {
                face.add(Modifier.toString(m.getModifiers()) + " " + m.getReturnType().getName() + " " + m.getName()
                    + types(m.getParameters()));
            }
        }
        return face;
    }

    private static String types(Parameter[] parameters) {
        List<String> types = new ArrayList<>();
        for (Parameter p : parameters) {
            types.add(p.getType().getName());
        }
        return "(" + String.join(", ", types) + ")";
    }
}
