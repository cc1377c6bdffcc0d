import java.io.IOException;
import java.lang.reflect.Constructor;
import java.lang.reflect.Field;
import java.lang.reflect.Method;
import java.lang.reflect.Modifier;
import java.nio.charset.StandardCharsets;
import java.nio.file.Files;
import java.nio.file.Path;
import java.util.List;
import java.util.Map;
import java.util.Set;
import java.util.TreeMap;
import java.util.TreeSet;
import java.util.regex.Matcher;
import java.util.regex.Pattern;

/** Rules of LANGUAGE.md that the program's text and its compiled classes show. */
public final class RulesTest {
    private static final String LIBRARY = "a function of the library";
    private static final Path PROGRAM = Path.of("src/main/java/DawnPerquisite.java");
    private static final Set<String> FACE = new TreeSet<>(List.of(("sort buyer feed end text fault by sell give turn pass day "
        + "played years undo of ofSort at is book foretold pack see hope keep chance first paid was surest likeliest ask auction "
        + "stab crowd dawns month value ends take best said whose richest rival learnt wanted alone since idle poor room can "
        + "ledger image back about").split(" ")));

    private static void must(String what, boolean holds) {
        Check.due(what, holds, true);
    }

    private static void words(String code) {
        for (String word : List.of("throw", "throws", "try", "catch", "synchronized", "assert", "import", "package", "instanceof",
            "record", "native", "volatile", "protected", "Object", "System\\.out", "Integer\\.(?!bitCount)", "double", "float")) {
            must("no " + word, !Pattern.compile("\\b" + word + "\\b").matcher(code).find());
        }
        for (String sign : List.of("->", "::", "Exact(", "@")) {
            must("no " + sign, !code.contains(sign));
        }
        must("signs of 1 to 127", code.chars().allMatch(c -> c == 10 || c >= 32 && c < 127));
        must("no joining of texts by +", !Pattern.compile("\"\\s*\\+|\\+\\s*\"").matcher(code).find());
    }

    /** Objects are made for fields, and in the loops of two constructors that fill a row of them. */
    private static void objects(String code) {
        for (String line : code.split("\n")) {
            boolean field = line.matches(" +(private (static )?(final )?|(static )?final )[A-Z]?[a-z]+(\\[\\])* \\w+ = new .*;");
            boolean row = line.matches(" +(texts\\[text\\] = new Text\\(\\)|past\\[step\\] = new Wall\\(\\));");
            must("makes nothing in a call: " + line, !line.matches(".*\\bnew\\b.*") || field || row);
        }
    }

    private static void shortMethods(String code) {
        int begun = 0;
        String[] lines = code.split("\n");
        for (int i = 0; i < lines.length; i++) {
            if (lines[i].matches(" {4}( {4})?[a-z].*\\) \\{")) {
                begun = i;
            }
            if (lines[i].matches(" {4}( {4})?\\}")) {
                must("a short method at line " + (begun + 1), begun == 0 || i - begun <= 60 || lines[i].equals("    }"));
            }
        }
    }

    /** What each method calls, by its name; a function of the library is a leaf. */
    private static Map<String, Set<String>> calls(String code) {
        Pattern header = Pattern.compile(" {4}( {4})?(?:(?:public|private|static|final) )*[\\w\\[\\]]+ (\\w+)\\(.*\\) \\{");
        Pattern call = Pattern.compile("((?:Math|Integer|Long|System)\\.)?\\b(\\w+)\\(");
        Map<String, Set<String>> calls = new TreeMap<>();
        String within = "";
        for (String line : code.split("\n")) {
            Matcher method = header.matcher(line);
            if (method.matches()) {
                within = method.group(2);
                calls.putIfAbsent(within, new TreeSet<>());
            } else if (calls.containsKey(within)) {
                Matcher called = call.matcher(line);
                while (called.find()) {
                    calls.get(within).add(called.group(1) == null ? called.group(2) : LIBRARY);
                }
            }
        }
        calls.put(LIBRARY, new TreeSet<>());
        calls.values().forEach(called -> called.retainAll(calls.keySet()));
        return calls;
    }

    private static Map<String, Set<String>> reached(Map<String, Set<String>> calls) {
        Map<String, Set<String>> reached = new TreeMap<>();
        calls.forEach((name, called) -> reached.put(name, new TreeSet<>(called)));
        for (String between : calls.keySet()) {
            for (Set<String> called : reached.values()) {
                if (called.contains(between)) {
                    called.addAll(reached.get(between));
                }
            }
        }
        return reached;
    }

    /** How deep the calls from a method go, where methods that call one another around (a recursion) count once. */
    private static int deep(String name, Map<String, Set<String>> calls, Map<String, Set<String>> reached) {
        int most = 0;
        for (String one : calls.keySet()) {
            boolean around = reached.get(name).contains(one) && reached.get(one).contains(name);
            if (around || one.equals(name)) {
                for (String called : calls.get(one)) {
                    if (!reached.get(called).contains(name)) {
                        most = Math.max(most, called.equals(name) ? 0 : deep(called, calls, reached));
                    }
                }
            }
        }
        return most + 1;
    }

    private static void depth(String code) {
        Map<String, Set<String>> calls = calls(code);
        Map<String, Set<String>> reached = reached(calls);
        must("calls are seen", calls.get("played").contains("play") && reached.get("played").contains(LIBRARY));
        must("a recursion is seen", reached.get("sum").contains("sum"));
        for (String name : calls.keySet()) {
            must("calls go at most eight deep from " + name, deep(name, calls, reached) <= 8);
        }
    }

    private static void members(Class<?> type, boolean face) {
        int fields = 0;
        for (Field field : type.getDeclaredFields()) {
            int is = field.getModifiers();
            must("a static field is final: " + field, !Modifier.isStatic(is) || Modifier.isFinal(is));
            must("the face alone can be seen: " + field, !face || Modifier.isPrivate(is) || field.getName().equals("NONE"));
            fields += Modifier.isStatic(is) ? 0 : 1;
        }
        must("some twenty fields in " + type, fields <= 20);
        for (Method method : type.getDeclaredMethods()) {
            boolean seen = !Modifier.isPrivate(method.getModifiers());
            must("the face alone can be seen: " + method, !face || seen == FACE.contains(method.getName()));
            must("no other method bears a name of the face: " + method, face || !FACE.contains(method.getName()));
            must("seven parameters: " + method, method.getParameterCount() <= 7);
        }
        for (Constructor<?> constructor : type.getDeclaredConstructors()) {
            must("a plain constructor: " + constructor, constructor.getParameterCount() == 0);
        }
    }

    public static void main(String[] args) throws IOException {
        String code = Files.readString(PROGRAM, StandardCharsets.ISO_8859_1);
        String bare = code.replaceAll("(?s)/\\*.*?\\*/", "").replaceAll("//[^\n]*", "");
        words(bare);
        objects(bare);
        shortMethods(bare);
        depth(bare);
        members(DawnPerquisite.class, true);
        Class<?>[] inside = DawnPerquisite.class.getDeclaredClasses();
        must("some twelve classes", inside.length <= 12);
        for (Class<?> type : inside) {
            must("static and private: " + type, Modifier.isStatic(type.getModifiers()) && Modifier.isPrivate(type.getModifiers()));
            members(type, false);
        }
        long public58 = List.of(DawnPerquisite.class.getDeclaredMethods()).stream()
            .filter(m -> Modifier.isPublic(m.getModifiers())).count();
        Check.due("methods of the face", public58, FACE.size());
        Check.due("methods of the document", FACE.size(), 57);
        Check.report("RulesTest");
    }
}
