import java.io.IOException;
import java.lang.reflect.Method;
import java.nio.file.Files;
import java.nio.file.Path;
import java.util.ArrayList;
import java.util.List;
import java.util.Set;
import java.util.TreeSet;
import java.util.regex.Matcher;
import java.util.regex.Pattern;
import java.util.stream.Stream;

/** That what README.md says is so: its calls answer what stands behind them, and what it names is there. */
public final class ReadmeTest {
    private static final Pattern CALL = Pattern.compile("x\\.(\\w+)\\((.*)\\);\\s+// (-?\\d+): .+");
    private static final Pattern BYTES = Pattern.compile("String bytes = \"(.*)\";");

    public static void main(String[] args) throws IOException {
        String readme = Files.readString(Path.of("README.md"));
        calls(readme);
        tableOfCalls(readme);
        tableOfTests(readme);
        classes(readme);
        files(readme);
        Due.ends();
    }

    private static List<String> blocks(String readme, String language) {
        List<String> blocks = new ArrayList<>();
        Matcher matcher = Pattern.compile("(?s)```" + language + "\n(.*?)```").matcher(readme);
        while (matcher.find()) {
            blocks.add(matcher.group(1));
        }
        return blocks;
    }

    /** The blocks of Java are one program; a line that isn't known here is not as due. */
    private static void calls(String readme) {
        WhoBuiltSails x = new WhoBuiltSails();
        String bytes = "";
        int made = 0;
        for (String line : String.join("\n", blocks(readme, "java")).split("\n")) {
            Matcher call = CALL.matcher(line);
            Matcher text = BYTES.matcher(line);
            if (call.matches()) {
                Due.is("README: " + line, Calls.ask(x, call.group(1), numbers(call.group(2))),
                    Long.parseLong(call.group(3)));
                made++;
            } else if (text.matches()) {
                bytes = text.group(1);
            } else if (line.trim().equals("x.feed(bytes.charAt(i));")) {
                Due.feed(x, bytes);
            } else {
                Due.is("README: " + line, Set.of("", "}", "WhoBuiltSails x = new WhoBuiltSails();",
                    "for (int i = 0; i < bytes.length(); i++) {").contains(line));
            }
        }
        Due.is("README has calls: " + made, made > 20);
    }

    private static int[] numbers(String arguments) {
        if (arguments.isEmpty()) {
            return new int[0];
        }
        String[] each = arguments.split(", ");
        int[] numbers = new int[each.length];
        for (int i = 0; i < each.length; i++) {
            numbers[i] = each[i].startsWith("'") ? each[i].charAt(1) : Integer.parseInt(each[i]);
        }
        return numbers;
    }

    /** What stands in the first column of the table under a head, each name by its own. */
    private static List<String> column(String readme, String head) {
        List<String> names = new ArrayList<>();
        int from = readme.indexOf("| " + head + " |");
        Due.is("README has a table of " + head, from >= 0);
        String table = from < 0 ? "" : readme.substring(from).split("\n\n")[0];
        for (String line : table.split("\n")) {
            Matcher matcher = Pattern.compile("`(\\w+)`").matcher(line.split("\\|").length > 1 ? line.split("\\|")[1] : "");
            while (matcher.find()) {
                names.add(matcher.group(1));
            }
        }
        return names;
    }

    private static void tableOfCalls(String readme) {
        List<String> named = column(readme, "calls");
        Set<String> due = new TreeSet<>();
        for (Method method : WhoBuiltSails.class.getMethods()) {
            if (method.getDeclaringClass() == WhoBuiltSails.class) {
                due.add(method.getName());
            }
        }
        Due.is("README names each call: " + named, new TreeSet<>(named).equals(due));
        Due.is("README names each call once", named.size(), due.size());
        String face = String.join(" ", FaceTest.callsOfTheDocument());
        Due.is("README orders them as the document: " + named, String.join(" ", named).equals(face));
    }

    private static void tableOfTests(String readme) throws IOException {
        Set<String> due = new TreeSet<>();
        try (Stream<Path> files = Files.list(Path.of("tests"))) {
            files.map(file -> file.getFileName().toString()).filter(name -> name.endsWith("Test.java"))
                .forEach(name -> due.add(name.replace(".java", "")));
        }
        List<String> named = column(readme, "test");
        Due.is("README names each test: " + named + ", due are " + due, new TreeSet<>(named).equals(due));
        Due.is("README names each test once", named.size(), due.size());
        for (String block : blocks(readme, "sh")) {
            Matcher matcher = Pattern.compile("\\w+Test\\b").matcher(block);
            while (matcher.find()) {
                Due.is("README runs " + matcher.group(), due.contains(matcher.group()));
            }
        }
    }

    private static void classes(String readme) {
        Set<String> due = new TreeSet<>(Set.of("WhoBuiltSails"));
        for (Class<?> each : WhoBuiltSails.class.getDeclaredClasses()) {
            due.add(each.getSimpleName());
        }
        Set<String> named = new TreeSet<>();
        Matcher matcher = Pattern.compile("(?m)^- `(\\w+)`: ").matcher(readme);
        while (matcher.find()) {
            named.add(matcher.group(1));
        }
        Due.is("README names each class: " + named, named.equals(due));
    }

    private static void files(String readme) {
        Matcher matcher = Pattern.compile("`([\\w./]*/[\\w./]+|\\w+\\.md)`").matcher(readme);
        while (matcher.find()) {
            Due.is("README names " + matcher.group(1), Files.exists(Path.of(matcher.group(1))));
        }
        Due.is("README says how tests are run", readme.contains("\n.ci/run\n") && Files.isExecutable(Path.of(".ci/run")));
    }
}
