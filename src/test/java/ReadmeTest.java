import java.io.IOException;
import java.lang.reflect.Method;
import java.lang.reflect.Modifier;
import java.net.URL;
import java.net.URLClassLoader;
import java.nio.charset.StandardCharsets;
import java.nio.file.Files;
import java.nio.file.Path;
import java.util.ArrayList;
import java.util.Comparator;
import java.util.List;
import java.util.regex.Matcher;
import java.util.regex.Pattern;
import java.util.stream.Stream;
import javax.tools.JavaCompiler;
import javax.tools.ToolProvider;

/**
 * README.md: its examples are made into a class, compiled and run, and each answer must be the one that stands behind
 * the call. Every call of the face must be told of in a table and used in an example.
 */
public final class ReadmeTest {
    private static final Path PAGE = Path.of("README.md");
    private static final Path TESTS = Path.of("src/test/java");
    private static final String MADE = "ReadmeExamples";
    private static final String NEW_WALL = "DawnPerquisite wall = new DawnPerquisite();";
    private static final Pattern TOLD_TEXT = Pattern.compile("String \\w+ = \"[^\"]*\";");
    private static final Pattern CALL = Pattern.compile("(?:int (\\w+) = )?(.+\\));(?: +// (.*))?");
    private static final Pattern ANSWER = Pattern.compile("(-?\\d+|true|false|NONE)(?:[:, ].*)?");
    private static final Pattern REFUSED = Pattern.compile("`(wall\\.\\w+\\([^`]*\\))` is `(-?\\d+|true|false|NONE)`");

    private final List<String> sections = new ArrayList<>();
    private final List<String> refused = new ArrayList<>();
    private final StringBuilder helpers = new StringBuilder();
    private final StringBuilder used = new StringBuilder();
    private final StringBuilder tables = new StringBuilder();

    private static void must(String what, boolean holds) {
        Check.due(what, holds, true);
    }

    private static String due(String where, String got, String want) {
        return "due(\"" + where.replace("\"", "'") + "\", " + got + ", " + want.replace("NONE", "DawnPerquisite.NONE") + ");\n";
    }

    // ---- the page as a class ----

    private void reads(List<String> lines) {
        boolean inside = false;
        boolean helping = false;
        for (int i = 0; i < lines.size(); i++) {
            String line = lines.get(i);
            String where = "README.md:" + (i + 1) + ": " + line.strip();
            if (line.startsWith("```")) {
                inside = !inside;
                must(where + ": Java alone stands in a fence", !inside || line.equals("```java"));
                helping = inside && lines.get(i + 1).startsWith("static ");
            } else if (inside && helping) {
                helpers.append(line).append('\n');
            } else if (inside && !line.isBlank()) {
                used.append(line).append('\n');
                example(line.strip(), where);
            } else if (!inside) {
                prose(line, where);
            }
        }
        must("the last fence is closed", !inside);
    }

    private void prose(String line, String where) {
        if (line.startsWith("## ")) {
            sections.add("");
        }
        if (line.startsWith("| `")) {
            tables.append(line).append('\n');
        }
        Matcher told = REFUSED.matcher(line);
        while (told.find()) {
            refused.add("{ " + NEW_WALL + " " + due(where, told.group(1), told.group(2)) + "}\n");
        }
    }

    private void example(String line, String where) {
        String made = line + "\n";
        if (!line.equals(NEW_WALL) && !TOLD_TEXT.matcher(line).matches()) {
            Matcher call = CALL.matcher(line);
            Matcher answer = ANSWER.matcher(call.matches() && call.group(3) != null ? call.group(3) : "");
            boolean told = answer.matches();
            must(where + ": a call and its answer", told);
            if (!told) {
                return;
            }
            String name = call.group(1);
            made = name == null ? due(where, call.group(2), answer.group(1))
                : "int " + name + " = " + call.group(2) + ";\n" + due(where, name, answer.group(1));
        }
        must(where + ": stands in a section", !sections.isEmpty());
        sections.set(sections.size() - 1, sections.get(sections.size() - 1) + made);
    }

    private String source() {
        StringBuilder source = new StringBuilder("public final class " + MADE + " {\n"
            + "public static final java.util.List<Object[]> ANSWERS = new java.util.ArrayList<>();\n"
            + "private static void due(String what, long got, long want) { ANSWERS.add(new Object[] {what, got, want}); }\n"
            + "private static void due(String what, boolean got, boolean want) { due(what, got ? 1L : 0L, want ? 1L : 0L); }\n");
        source.append(helpers).append("public static void run() {\n");
        for (String section : sections) {
            source.append("{\n").append(section).append("}\n");
        }
        for (String call : refused) {
            source.append(call);
        }
        return source.append("}\n}\n").toString();
    }

    // ---- the class is run ----

    private static void runs(String source) throws IOException, ReflectiveOperationException {
        Path folder = Files.createTempDirectory("readme");
        try {
            Path file = folder.resolve(MADE + ".java");
            Files.writeString(file, source, StandardCharsets.ISO_8859_1);
            JavaCompiler compiler = ToolProvider.getSystemJavaCompiler();
            must("there is a compiler", compiler != null);
            int failed = compiler.run(null, null, null, "-nowarn", "-cp", System.getProperty("java.class.path"), "-d",
                folder.toString(), file.toString());
            must("the examples of README.md are Java", failed == 0);
            if (failed == 0) {
                answers(folder);
            }
        } finally {
            try (Stream<Path> files = Files.walk(folder)) {
                for (Path file : files.sorted(Comparator.reverseOrder()).toList()) {
                    Files.delete(file);
                }
            }
        }
    }

    private static void answers(Path folder) throws IOException, ReflectiveOperationException {
        try (URLClassLoader loader = new URLClassLoader(new URL[] {folder.toUri().toURL()})) {
            Class<?> made = loader.loadClass(MADE);
            made.getMethod("run").invoke(null);
            for (Object answer : (List<?>) made.getField("ANSWERS").get(null)) {
                Object[] row = (Object[]) answer;
                Check.due((String) row[0], (Long) row[1], (Long) row[2]);
            }
        }
    }

    // ---- what the page must tell of ----

    private void tellsOfAll() {
        String examples = used.toString() + helpers;
        for (Method method : DawnPerquisite.class.getDeclaredMethods()) {
            if (Modifier.isPublic(method.getModifiers())) {
                String name = method.getName();
                must("README.md has " + name + " in a table", tables.toString().contains("`" + name + "("));
                must("README.md uses " + name, examples.contains("wall." + name + "("));
            }
        }
        must("README.md has examples of refused calls", refused.size() >= 40);
    }

    private static void tellsOfTests(String page) throws IOException {
        try (Stream<Path> files = Files.list(TESTS)) {
            for (Path file : files.toList()) {
                String told = "`" + TESTS + "/" + file.getFileName() + "`";
                must("README.md tells of " + told, page.contains(told));
            }
        }
        for (String told : List.of(".ci/run", "../shared/tests", "JDK 17", "javac", "../shared/DOC.md", "../shared/LANGUAGE.md")) {
            must("README.md tells of " + told, page.contains(told));
        }
    }

    public static void main(String[] args) throws IOException, ReflectiveOperationException {
        ReadmeTest page = new ReadmeTest();
        page.reads(Files.readAllLines(PAGE, StandardCharsets.UTF_8));
        runs(page.source());
        page.tellsOfAll();
        tellsOfTests(Files.readString(PAGE, StandardCharsets.UTF_8));
        Check.report("ReadmeTest");
    }
}
