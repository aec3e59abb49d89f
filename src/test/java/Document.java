import java.io.IOException;
import java.lang.reflect.Method;
import java.nio.charset.StandardCharsets;
import java.nio.file.Files;
import java.nio.file.Path;
import java.util.ArrayList;
import java.util.Arrays;
import java.util.LinkedHashMap;
import java.util.List;
import java.util.Map;
import java.util.regex.Matcher;
import java.util.regex.Pattern;

/** ../shared/DOC.md by its parts, and which of its words the tests quote. */
final class Document {
    private static final Path FILE = Path.of("../shared/DOC.md");
    private static final Pattern HEADING = Pattern.compile("^## (Promise \\d+|[^:]*).*$|^==== (\\d) (.*)$");
    /** What names a boundary holds a number or one of these words. */
    private static final Pattern NAMES_A_BOUNDARY = Pattern.compile("\\d|\\b(NONE|BAD|STATE|FULL|NO|NOTHING|CAST|PLACE|SIZE"
        + "|none|nothing|empty|no|at most|at least|first|last|else|if|whatever)\\b");
    /** It names no boundary of what is promised. */
    private static final String NOT_PROMISED = "Not promised";

    private Document() {
    }

    /** Quotations that don't stand in the document, and sentences that name a boundary and aren't quoted. */
    static List<String> missing(List<Method> tests) throws IOException {
        List<String> missing = new ArrayList<>();
        if (!Files.isReadable(FILE)) {
            System.out.println("EdgesTest: " + FILE + " isn't there, so nothing tells whether the quotations stand in it");
            return missing;
        }
        Map<String, String> parts = parts();
        Map<String, boolean[]> quoted = new LinkedHashMap<>();
        parts.forEach((part, text) -> quoted.put(part, new boolean[text.length()]));
        for (Method test : tests) {
            Of of = test.getAnnotation(Of.class);
            String text = parts.getOrDefault(of.part(), "");
            if (!mark(text, of.says(), quoted.get(of.part()))) {
                missing.add(test.getName() + " quotes what doesn't stand in " + of.part() + ": " + of.says());
            }
        }
        parts.remove(NOT_PROMISED);
        parts.forEach((part, text) -> missing.addAll(unquoted(part, text, quoted.get(part))));
        return missing;
    }

    private static boolean mark(String text, String says, boolean[] quoted) {
        int at = text.indexOf(says);
        if (at < 0 || says.isEmpty()) {
            return false;
        }
        for (; at >= 0; at = text.indexOf(says, at + 1)) {
            Arrays.fill(quoted, at, at + says.length(), true);
        }
        return true;
    }

    private static List<String> unquoted(String part, String text, boolean[] quoted) {
        List<String> rest = new ArrayList<>();
        int from = 0;
        for (int i = 0; i <= text.length(); i++) {
            if (i == text.length() || quoted[i]) {
                String piece = text.substring(from, i).strip();
                if (NAMES_A_BOUNDARY.matcher(piece).find()) {
                    rest.add("no test is of this, in " + part + ": " + piece);
                }
                from = i + 1;
            }
        }
        return rest;
    }

    /** The text of each part, without the heading and the line of its call, all on one line. */
    private static Map<String, String> parts() throws IOException {
        Map<String, StringBuilder> parts = new LinkedHashMap<>();
        String part = "";
        for (String line : Files.readAllLines(FILE, StandardCharsets.UTF_8)) {
            Matcher heading = HEADING.matcher(line);
            String said = line;
            if (heading.matches()) {
                part = heading.group(2) == null ? heading.group(1) : "Terms " + heading.group(2);
                said = heading.group(2) == null ? "" : heading.group(3);
            }
            parts.computeIfAbsent(part, p -> new StringBuilder()).append(' ').append(said);
        }
        Map<String, String> plain = new LinkedHashMap<>();
        parts.forEach((name, text) -> plain.put(name, plain(text.toString())));
        return plain;
    }

    private static String plain(String text) {
        String withoutCode = text.replaceAll("```\\w*", " ").replaceAll("`(int|long|AtlasEnds)\\b[^`]*`:", " ");
        return withoutCode.replaceAll("\\s+", " ").strip();
    }
}
