import java.io.File;
import java.io.IOException;
import java.lang.reflect.InvocationTargetException;
import java.lang.reflect.Method;
import java.lang.reflect.Modifier;
import java.net.URL;
import java.net.URLClassLoader;
import java.nio.charset.StandardCharsets;
import java.nio.file.Files;
import java.nio.file.Path;
import java.util.ArrayList;
import java.util.List;
import java.util.Map;
import java.util.TreeMap;
import java.util.regex.Matcher;
import java.util.regex.Pattern;
import javax.tools.JavaCompiler;
import javax.tools.ToolProvider;

/** README.md: its examples answer what stands behind each call; each call, constant and test is named in it. */
public final class ReadmeTest {
    private static final Path README = Path.of("README.md");
    private static final Path TESTS = Path.of("src/test/java");
    private static final Pattern EXAMPLE = Pattern.compile("```java\n(.*?)```", Pattern.DOTALL);
    /** A call on atlas, with or without a name for its answer, and the answer behind it. */
    private static final Pattern ANSWERED = Pattern.compile(
        "^(?<names>\\w+ (?<name>\\w+) = )?(?<call>atlas\\.\\w+\\(.*\\)); +// (?<due>-?\\d+|NO)(:.*)?$");
    private static final Pattern CALL = Pattern.compile("atlas\\.\\w+\\(");

    private ReadmeTest() {
    }

    public static void main(String[] args) throws Exception {
        String readme = Files.readString(README, StandardCharsets.UTF_8);
        List<String> wrong = new ArrayList<>();
        examples(readme, wrong);
        names(readme, wrong);
        wrong.forEach(what -> System.out.println("ReadmeTest: " + what));
        System.out.println("ReadmeTest: " + wrong.size() + " not as README.md says");
        if (!wrong.isEmpty()) {
            System.exit(1);
        }
    }

    // ---- examples

    /** All examples are one program, for each goes on from the one above it. */
    private static void examples(String readme, List<String> wrong) throws Exception {
        StringBuilder body = new StringBuilder();
        int answers = 0;
        Matcher example = EXAMPLE.matcher(readme);
        while (example.find()) {
            for (String line : example.group(1).split("\n")) {
                Matcher answered = ANSWERED.matcher(line);
                if (answered.matches()) {
                    answers++;
                    body.append(asked(answered));
                } else {
                    body.append(line).append('\n');
                    if (CALL.matcher(line).find() && !line.startsWith(" ")) {
                        wrong.add("no answer stands behind " + line);
                    }
                }
            }
        }
        if (answers == 0) {
            wrong.add("there is no example");
            return;
        }
        runExamples(body.toString(), wrong);
    }

    private static String asked(Matcher answered) {
        String call = answered.group("call");
        String due = answered.group("due").equals("NO") ? "AtlasEnds.NO" : answered.group("due");
        String name = answered.group("name");
        String first = name == null ? "" : answered.group("names") + call + ";\n";
        return first + "is(\"" + call.replace("\"", "\\\"") + "\", " + (name == null ? call : name) + ", " + due + ");\n";
    }

    private static void runExamples(String body, List<String> wrong) throws Exception {
        String program = "public final class Examples {\n"
            + "static final java.util.List<String> WRONG = new java.util.ArrayList<>();\n"
            + "static void is(String call, long got, long want) {\n"
            + "if (got != want) { WRONG.add(call + \" answers \" + got + \", README.md says \" + want); }\n}\n"
            + "public static java.util.List<String> run() {\n"
            + body + "return WRONG;\n}\n}\n";
        Path out = Files.createTempDirectory("readme");
        try {
            Path file = Files.writeString(out.resolve("Examples.java"), program);
            JavaCompiler javac = ToolProvider.getSystemJavaCompiler();
            int code = javac.run(null, null, null, "-encoding", "UTF-8", "-cp", System.getProperty("java.class.path"),
                "-d", out.toString(), file.toString());
            if (code != 0) {
                wrong.add("the examples do not compile");
                return;
            }
            wrong.addAll(answersOf(out));
        } finally {
            remove(out);
        }
    }

    private static List<String> answersOf(Path out) throws IOException, ReflectiveOperationException {
        try (URLClassLoader loader = new URLClassLoader(new URL[] {out.toUri().toURL()})) {
            List<String> wrong = new ArrayList<>();
            for (Object what : (List<?>) loader.loadClass("Examples").getMethod("run").invoke(null)) {
                wrong.add(what.toString());
            }
            return wrong;
        } catch (InvocationTargetException e) {
            return List.of("the examples throw " + e.getCause());
        }
    }

    private static void remove(Path out) throws IOException {
        File[] files = out.toFile().listFiles();
        for (File file : files == null ? new File[0] : files) {
            Files.deleteIfExists(file.toPath());
        }
        Files.deleteIfExists(out);
    }

    // ---- names

    private static void names(String readme, List<String> wrong) throws IOException {
        Map<String, Integer> calls = new TreeMap<>();
        for (Method m : AtlasEnds.class.getDeclaredMethods()) {
            if (Modifier.isPublic(m.getModifiers())) {
                calls.put(m.getName(), m.getParameterCount());
            }
        }
        calls.forEach((name, parameters) -> {
            if (!isListed(readme, name, parameters)) {
                wrong.add("README.md doesn't list " + name + " with " + parameters + " parameters");
            }
        });
        for (String constant : List.of("NONE", "BAD", "STATE", "FULL", "NO")) {
            if (!readme.contains("`" + constant + "`")) {
                wrong.add("README.md doesn't tell `" + constant + "`");
            }
        }
        try (var files = Files.list(TESTS)) {
            files.map(file -> file.getFileName().toString()).filter(name -> name.matches("\\w+(Test|Edges)\\.java"))
                .map(name -> name.replace(".java", "")).filter(name -> !readme.matches("(?s).*\\| [^|\n]*\\b" + name + "\\b[^\n]*\\|.*"))
                .forEach(name -> wrong.add("README.md doesn't list " + name));
        }
    }

    private static boolean isListed(String readme, String name, int parameters) {
        Matcher listed = Pattern.compile("`" + name + "\\(([^)]*)\\)`").matcher(readme);
        while (listed.find()) {
            String inside = listed.group(1).strip();
            if ((inside.isEmpty() ? 0 : inside.split(",").length) == parameters) {
                return true;
            }
        }
        return false;
    }
}
