import java.io.IOException;
import java.lang.reflect.Constructor;
import java.lang.reflect.Field;
import java.lang.reflect.Method;
import java.lang.reflect.Modifier;
import java.nio.charset.StandardCharsets;
import java.nio.file.Files;
import java.nio.file.Path;
import java.util.ArrayList;
import java.util.Arrays;
import java.util.HashSet;
import java.util.List;
import java.util.Map;
import java.util.Set;
import java.util.TreeMap;
import java.util.TreeSet;
import java.util.regex.Matcher;
import java.util.regex.Pattern;

/** What of ../shared/LANGUAGE.md can be told from the source and from the class: the face, words, sizes. */
public final class LanguageTest {
    private static final String FACE = """
        public int set(int,int,int)
        public int wright(int,int,int)
        public int told(int,int)
        public int asks(int,int,int)
        public int feed(int)
        public int text()
        public int force(int)
        public int builds(int,int)
        public int bound()
        public int home()
        public int day()
        public int run(int,int)
        public int down()
        public int yard(int,int)
        public int stands(int)
        public int go(int,int)
        public int worst()
        public long mean(int)
        public int tells(int,int,int)
        public int film(int,int)
        public int drawn(int,int)
        public long chance(int,int,int)
        public int image()
        public int back()
        public int count(int)
        public int sheet(int,int,int)
        public int cell(int,int,int)
        public int copy(int,int,int,int,int)
        public int gang(int,int,int,int)
        public int taken(int,int)
        """;

    public static void main(String[] args) throws IOException {
        Path path = Path.of("src/main/java/WhoBuiltSails.java");
        String source = Files.readString(path, StandardCharsets.UTF_8);
        String code = bare(source);
        rule1Face();
        rule1NoPrivateOneBearsAPublicName();
        rule2NestedOnesAreStatic();
        rule3Types();
        rule5StaticFields();
        rule11Fields();
        words(code);
        lengths(code);
        depths(code);
        Due.ends();
    }

    /** The source without comments and without what its texts and letters hold. */
    private static String bare(String source) {
        return source.replaceAll("(?s)/\\*.*?\\*/", " ").replaceAll("//[^\\n]*", " ")
            .replaceAll("\"([^\"\\\\]|\\\\.)*\"", "\"\"").replaceAll("'([^'\\\\]|\\\\.)'", "0");
    }

    private static void rule1Face() {
        Set<String> due = new TreeSet<>(Arrays.asList(FACE.trim().split("\n")));
        Set<String> is = new TreeSet<>();
        for (Method method : WhoBuiltSails.class.getDeclaredMethods()) {
            if (!Modifier.isPrivate(method.getModifiers()) && !method.isSynthetic()) {
                is.add(method.toString().replace("WhoBuiltSails.", ""));
            }
        }
        Due.is("rule 1: " + is, is.equals(due));
        Constructor<?>[] made = WhoBuiltSails.class.getDeclaredConstructors();
        Due.is("rule 1: one constructor", made.length == 1 && Modifier.isPublic(made[0].getModifiers())
            && made[0].getParameterCount() == 0);
        Set<String> fields = new TreeSet<>();
        for (Field field : WhoBuiltSails.class.getDeclaredFields()) {
            if (!Modifier.isPrivate(field.getModifiers())) {
                fields.add(field.toString());
            }
        }
        Due.is("rule 1: constants " + fields, fields.equals(Set.of(
            "public static final int WhoBuiltSails.NONE", "public static final int WhoBuiltSails.BAD",
            "public static final int WhoBuiltSails.STATE", "public static final int WhoBuiltSails.FULL",
            "public static final long WhoBuiltSails.NO")));
        Due.is("rule 1: public and final", WhoBuiltSails.class.getModifiers() == (Modifier.PUBLIC | Modifier.FINAL));
    }

    private static List<Class<?>> all() {
        List<Class<?>> all = new ArrayList<>();
        all.add(WhoBuiltSails.class);
        all.addAll(Arrays.asList(WhoBuiltSails.class.getDeclaredClasses()));
        return all;
    }

    private static void rule1NoPrivateOneBearsAPublicName() {
        Set<String> names = new HashSet<>();
        for (String line : FACE.trim().split("\n")) {
            names.add(line.replaceAll("public \\w+ (\\w+)\\(.*", "$1"));
        }
        for (Class<?> each : all()) {
            for (Method method : each.getDeclaredMethods()) {
                boolean isOfFace = each == WhoBuiltSails.class && Modifier.isPublic(method.getModifiers());
                Due.is("rule 1: " + method, isOfFace || !names.contains(method.getName()));
            }
        }
    }

    private static void rule2NestedOnesAreStatic() {
        for (Class<?> each : WhoBuiltSails.class.getDeclaredClasses()) {
            Due.is("rule 2: " + each, Modifier.isStatic(each.getModifiers()) && !Modifier.isPublic(each.getModifiers())
                && !Modifier.isProtected(each.getModifiers()));
            Due.is("rule 2: nothing inside of " + each, each.getDeclaredClasses().length, 0);
        }
        Due.is("rule 11: twelve classes", all().size() <= 12);
    }

    private static void rule3Types() {
        for (Class<?> each : all()) {
            for (Field field : each.getDeclaredFields()) {
                Class<?> type = field.getType();
                while (type.isArray()) {
                    type = type.getComponentType();
                }
                Due.is("rule 3: " + field, type.isPrimitive() || type == String.class || all().contains(type));
            }
        }
    }

    private static void rule5StaticFields() {
        Set<Class<?>> types = Set.of(int.class, long.class, boolean.class, char.class, String.class,
            int[].class, long[].class, char[].class, byte[].class);
        for (Class<?> each : all()) {
            for (Field field : each.getDeclaredFields()) {
                if (Modifier.isStatic(field.getModifiers()) && !field.isSynthetic()) {
                    Due.is("rule 5: " + field, Modifier.isFinal(field.getModifiers()) && types.contains(field.getType()));
                }
            }
        }
    }

    private static void rule11Fields() {
        for (Class<?> each : all()) {
            int size = 0;
            for (Field field : each.getDeclaredFields()) {
                size += Modifier.isStatic(field.getModifiers()) ? 0 : 1;
            }
            Due.is("rule 11: fields of " + each, size <= 20);
            for (Method method : each.getDeclaredMethods()) {
                Due.is("rule 11: parameters of " + method, method.getParameterCount() <= 7);
            }
        }
    }

    private static void words(String code) {
        String[] forbidden = {"\\bthrows?\\b", "\\btry\\b", "\\bcatch\\b", "\\bsynchronized\\b", "\\bassert\\b",
            "\\bimport\\b", "\\bpackage\\b", "->", "::", "\\bequals\\b", "\\bhashCode\\b", "\\btoString\\b",
            "\\bprotected\\b", "\\bvolatile\\b", "\\bnative\\b", "Exact\\b", "\\bObject\\b", "\\bstatic\\s*\\{",
            "@\\w+", "\\binstanceof\\b", "\\bwhile\\s*\\(\\s*true\\b", "\\bfor\\s*\\(\\s*;", "\"\"\\s*\\+", "\\+\\s*\"\"",
            "\\bSystem\\.(?!arraycopy\\b)", "\\bMath\\.(?!min\\b|max\\b)", "\\bInteger\\.(?!bitCount\\b)",
            "\\bThread\\b", "\\brandom\\b", "\\bvar\\b", "\\byield\\b", "[^\\x00-\\x7f]"};
        for (String word : forbidden) {
            Matcher matcher = Pattern.compile(word).matcher(code);
            Due.is("the code has " + word, !matcher.find());
        }
    }

    private static void lengths(String code) {
        String[] lines = code.split("\n", -1);
        int from = -1;
        for (int i = 0; i < lines.length; i++) {
            String line = lines[i];
            if (line.matches("( {4}| {8})(?! )[\\w\\[\\] ]+\\([\\w\\[\\], ]*\\) \\{")) {
                from = i;
            }
            if (from >= 0 && line.matches("( {4}| {8})\\}") && line.indexOf('}') == lines[from].indexOf(lines[from].trim())) {
                Due.is("rule 11: length of " + lines[from].trim(), i - from <= 60);
                from = -1;
            }
        }
    }

    /** Which methods each one calls, by their names: those of one name in two classes are taken for one. */
    private static Map<String, Set<String>> callsOf(String code) {
        Pattern declared = Pattern.compile("^(?: {4}| {8})(?! )(?!return|else)[\\w\\[\\] ]*?(\\w+)\\([\\w\\[\\], ]*\\) \\{$");
        Map<String, List<String>> bodies = new TreeMap<>();
        List<String> body = new ArrayList<>();
        for (String line : code.split("\n")) {
            Matcher matcher = declared.matcher(line);
            if (matcher.matches() && !line.matches(" *(for|if|while|switch)\\b.*")) {
                body = bodies.computeIfAbsent(matcher.group(1), name -> new ArrayList<>());
            } else {
                body.add(line);
            }
        }
        Map<String, Set<String>> calls = new TreeMap<>();
        for (String name : bodies.keySet()) {
            Set<String> called = new TreeSet<>();
            Matcher matcher = Pattern.compile("\\b(\\w+)\\(").matcher(String.join("\n", bodies.get(name)));
            while (matcher.find()) {
                if (bodies.containsKey(matcher.group(1))) {
                    called.add(matcher.group(1));
                }
            }
            calls.put(name, called);
        }
        return calls;
    }

    /** All that one calls, itself or by others. */
    private static Set<String> reached(Map<String, Set<String>> calls, String from) {
        Set<String> reached = new TreeSet<>();
        List<String> waiting = new ArrayList<>(calls.get(from));
        while (!waiting.isEmpty()) {
            String name = waiting.remove(waiting.size() - 1);
            if (reached.add(name)) {
                waiting.addAll(calls.get(name));
            }
        }
        return reached;
    }

    private static int depth(Map<String, Set<String>> calls, Set<String> recursive, String from) {
        int deepest = 0;
        Set<String> next = recursive.contains(from) ? new TreeSet<>() : calls.get(from);
        if (recursive.contains(from)) {
            // Those who call one another count as one.
            for (String name : recursive) {
                next.addAll(calls.get(name));
            }
            next.removeAll(recursive);
        }
        for (String name : next) {
            deepest = Math.max(deepest, depth(calls, recursive, name));
        }
        return deepest + 1;
    }

    private static void depths(String code) {
        Map<String, Set<String>> calls = callsOf(code);
        Set<String> recursive = new TreeSet<>();
        for (String name : calls.keySet()) {
            if (reached(calls, name).contains(name)) {
                recursive.add(name);
            }
        }
        Due.is("rule 8: who call one another: " + recursive, recursive.equals(Set.of("readOr", "readAnd", "readNot",
            "readCompared", "readSum", "readTerm", "readOne", "readMinus", "readBracket")));
        Due.is("rule 8: each round goes by opens()", calls.get("readNot").contains("opens")
            && calls.get("readMinus").contains("opens") && calls.get("readBracket").contains("opens"));
        int deepest = 0;
        for (String name : calls.keySet()) {
            int depth = depth(calls, recursive, name);
            deepest = Math.max(deepest, depth);
            Due.is("rule 11: " + name + " goes " + depth + " deep", depth <= 8);
        }
        Due.is("rule 11: what goes deep was looked at: " + deepest, deepest >= 6);
        Due.is("rule 11: so many methods were looked at: " + calls.size(), calls.size() > 80);
    }
}
