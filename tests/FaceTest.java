import java.io.IOException;
import java.lang.reflect.Modifier;
import java.nio.file.Files;
import java.nio.file.Path;
import java.util.ArrayList;
import java.util.List;
import java.util.regex.Matcher;
import java.util.regex.Pattern;

/** 'The public face' of ../shared/DOC.md, line by line, and what the interface says ahead of which calls. */
public final class FaceTest {
    private static final Pattern METHOD = Pattern.compile("public (?:int|long) (\\w+)\\(.*\\)");
    private static final Pattern SAYS =
        Pattern.compile("Ahead of the calls (.*) the interface says: (---- .*)\\.");

    public static void main(String[] args) throws IOException {
        List<String> due = faceOfTheDocument();
        List<String> is = faceOfTheSource();
        Due.is("34 lines", due.size(), 34);
        Due.is("as many lines", is.size(), due.size());
        for (int i = 0; i < Math.min(is.size(), due.size()); i++) {
            Due.is("line " + i + " is " + is.get(i) + ", due is " + due.get(i), is.get(i).equals(due.get(i)));
        }
        whatTheInterfaceSays();
        promises();
        constants();
        aNewOneEachTime();
        Due.ends();
    }

    private static String read(String file) {
        try {
            return Files.readString(Path.of(file));
        } catch (IOException e) {
            throw new IllegalStateException(file, e);
        }
    }

    private static List<String> faceOfTheDocument() {
        String doc = read("../shared/DOC.md");
        int from = doc.indexOf("```java\n");
        return faceOf(doc.substring(from, doc.indexOf("```", from + 3)));
    }

    private static List<String> faceOfTheSource() {
        return faceOf(read("src/main/java/WhoBuiltSails.java"));
    }

    /** The lines that begin with public, without what ends them. */
    private static List<String> faceOf(String text) {
        List<String> lines = new ArrayList<>();
        for (String line : text.split("\n")) {
            if (line.trim().startsWith("public ")) {
                lines.add(line.trim().replaceAll("\\s*[;{]$", ""));
            }
        }
        return lines;
    }

    /** The calls' names in the document's order. */
    static List<String> callsOfTheDocument() {
        List<String> names = new ArrayList<>();
        for (String line : faceOfTheDocument()) {
            Matcher matcher = METHOD.matcher(line);
            if (matcher.matches()) {
                names.add(matcher.group(1));
            }
        }
        return names;
    }

    /** Each call in the source stands behind the line that the document puts ahead of it, and no other between. */
    private static void whatTheInterfaceSays() {
        List<String> due = new ArrayList<>();
        Matcher says = SAYS.matcher(read("../shared/DOC.md"));
        while (says.find()) {
            for (String call : says.group(1).split(", ")) {
                due.add(call.replace("`", "") + " behind " + says.group(2));
            }
        }
        List<String> is = new ArrayList<>();
        String ahead = "nothing";
        for (String line : read("src/main/java/WhoBuiltSails.java").split("\n")) {
            Matcher method = METHOD.matcher(line.trim().replaceAll("\\s*\\{$", ""));
            if (line.trim().startsWith("// ---- ")) {
                ahead = line.trim().substring(3);
            } else if (method.matches()) {
                is.add(method.group(1) + " behind " + ahead);
            }
        }
        Due.is("what the interface says, of 30 calls", due.size(), 30);
        Due.is("what the interface says: " + is, is.equals(due));
    }

    /** A promise for each call, in the face's order, and one for the constructor. */
    private static void promises() {
        List<String> named = new ArrayList<>();
        Matcher matcher = Pattern.compile("(?m)^## Promise (\\d+): (.*)$").matcher(read("../shared/DOC.md"));
        while (matcher.find()) {
            Due.is("promise " + matcher.group(2), Integer.parseInt(matcher.group(1)), named.size() + 1);
            named.add(matcher.group(2));
        }
        List<String> due = new ArrayList<>(List.of("A new object"));
        due.addAll(callsOfTheDocument());
        Due.is("a promise for each call: " + named, named.equals(due));
    }

    private static void constants() {
        Due.is("NONE", WhoBuiltSails.NONE, -1);
        Due.is("BAD", WhoBuiltSails.BAD, -2);
        Due.is("STATE", WhoBuiltSails.STATE, -3);
        Due.is("FULL", WhoBuiltSails.FULL, -4);
        Due.is("NO", WhoBuiltSails.NO, -4611686018427387904L);
        Due.is("final", Modifier.isFinal(WhoBuiltSails.class.getModifiers()));
    }

    private static void aNewOneEachTime() {
        List<Long> first = Twins.everything(new WhoBuiltSails());
        Due.is("a new object is as the first one was", Twins.everything(new WhoBuiltSails()).equals(first));
    }
}
