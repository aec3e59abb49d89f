import java.io.ByteArrayOutputStream;
import java.io.IOException;
import java.io.OutputStream;
import java.lang.reflect.Method;
import java.net.URI;
import java.nio.file.DirectoryStream;
import java.nio.file.Files;
import java.nio.file.Path;
import java.util.ArrayList;
import java.util.HashMap;
import java.util.List;
import java.util.Map;
import java.util.concurrent.ExecutionException;
import java.util.concurrent.ExecutorService;
import java.util.concurrent.Executors;
import java.util.concurrent.Future;
import javax.tools.FileObject;
import javax.tools.ForwardingJavaFileManager;
import javax.tools.JavaCompiler;
import javax.tools.JavaFileManager;
import javax.tools.JavaFileObject;
import javax.tools.SimpleJavaFileObject;
import javax.tools.ToolProvider;

/**
 * A test of the tests: breaks one sentence of the document in the class at a time, as mutants.txt says, and looks
 * whether the test that is of this sentence fails. Arguments: the class's file, mutants.txt, the tests' class files.
 */
public final class Mutants {
    private static final Map<String, byte[]> tests = new HashMap<>();

    private Mutants() {
    }

    record Mutant(String test, String old, String broken) { }

    public static void main(String[] args) throws IOException, InterruptedException, ExecutionException {
        String source = Files.readString(Path.of(args[0]));
        readTests(Path.of(args[2]));
        ExecutorService workers = Executors.newFixedThreadPool(Runtime.getRuntime().availableProcessors());
        List<Future<String>> answers = new ArrayList<>();
        for (Mutant mutant : read(Path.of(args[1]))) {
            answers.add(workers.submit(() -> tell(source, mutant)));
        }
        int wrong = 0;
        for (Future<String> answer : answers) {
            if (!answer.get().isEmpty()) {
                wrong++;
                System.out.println(answer.get());
            }
        }
        workers.shutdown();
        System.out.println("Mutants: " + answers.size() + " mutants, " + wrong + " that their test doesn't find");
        System.exit(wrong == 0 ? 0 : 1);
    }

    /** Blocks of "==== test", the text as it is, "----", and the text as it is broken. */
    private static List<Mutant> read(Path file) throws IOException {
        List<Mutant> mutants = new ArrayList<>();
        for (String block : Files.readString(file).split("(?m)^==== ")) {
            if (block.isBlank()) {
                continue;
            }
            int name = block.indexOf('\n');
            String[] texts = block.substring(name + 1).split("(?m)^----\n", -1);
            mutants.add(new Mutant(block.substring(0, name), withoutLastBreak(texts[0]), withoutLastBreak(texts[1])));
        }
        return mutants;
    }

    private static String withoutLastBreak(String s) {
        return s.endsWith("\n") ? s.substring(0, s.length() - 1) : s;
    }

    private static void readTests(Path directory) throws IOException {
        try (DirectoryStream<Path> files = Files.newDirectoryStream(directory, "*.class")) {
            for (Path file : files) {
                tests.put(file.getFileName().toString().replace(".class", ""), Files.readAllBytes(file));
            }
        }
    }

    /** What is wrong with this mutant, or nothing: its test fails. */
    private static String tell(String source, Mutant mutant) throws ReflectiveOperationException {
        int at = source.indexOf(mutant.old);
        if (at < 0 || source.indexOf(mutant.old, at + 1) >= 0) {
            return mutant.test + ": this doesn't stand in the class, or stands there twice:\n" + mutant.old;
        }
        Map<String, byte[]> classes = compiled(source.substring(0, at) + mutant.broken + source.substring(at + mutant.old.length()));
        if (classes.size() == tests.size()) {
            return mutant.test + ": it doesn't compile:\n" + mutant.broken;
        }
        Method runAll = new Loader(classes).loadClass("EdgesTest").getDeclaredMethod("runAll");
        runAll.setAccessible(true);
        for (Object failed : ((Map<?, ?>) runAll.invoke(null)).keySet()) {
            if (failed.toString().startsWith(mutant.test + ",")) {
                return "";
            }
        }
        return mutant.test + " holds yet with\n" + mutant.broken;
    }

    // ---- compiling and loading, all in memory

    private static Map<String, byte[]> compiled(String code) {
        JavaCompiler compiler = ToolProvider.getSystemJavaCompiler();
        Memory memory = new Memory(compiler.getStandardFileManager(d -> { }, null, null));
        boolean isFine = compiler.getTask(null, memory, d -> { }, List.of("-proc:none", "--release", "17"), null,
            List.of(new Source(code))).call();
        Map<String, byte[]> classes = new HashMap<>(tests);
        if (isFine) {
            memory.made.forEach((name, made) -> classes.put(name, made.bytes.toByteArray()));
        }
        return classes;
    }

    private static final class Source extends SimpleJavaFileObject {
        private final String code;

        Source(String code) {
            super(URI.create("string:///AtlasEnds.java"), Kind.SOURCE);
            this.code = code;
        }

        @Override
        public CharSequence getCharContent(boolean ignoreEncodingErrors) {
            return code;
        }
    }

    private static final class Made extends SimpleJavaFileObject {
        private final ByteArrayOutputStream bytes = new ByteArrayOutputStream();

        Made(String name) {
            super(URI.create("mem:///" + name + ".class"), Kind.CLASS);
        }

        @Override
        public OutputStream openOutputStream() {
            return bytes;
        }
    }

    private static final class Memory extends ForwardingJavaFileManager<JavaFileManager> {
        private final Map<String, Made> made = new HashMap<>();

        Memory(JavaFileManager files) {
            super(files);
        }

        @Override
        public JavaFileObject getJavaFileForOutput(Location place, String name, JavaFileObject.Kind kind, FileObject beside) {
            Made one = new Made(name);
            made.put(name, one);
            return one;
        }
    }

    private static final class Loader extends ClassLoader {
        private final Map<String, byte[]> classes;

        Loader(Map<String, byte[]> classes) {
            super(ClassLoader.getPlatformClassLoader());
            this.classes = classes;
        }

        @Override
        protected Class<?> findClass(String name) throws ClassNotFoundException {
            byte[] bytes = classes.get(name);
            if (bytes == null) {
                throw new ClassNotFoundException(name);
            }
            return defineClass(name, bytes, 0, bytes.length);
        }
    }
}
