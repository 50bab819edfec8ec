import java.io.IOException;
import java.lang.reflect.Method;
import java.lang.reflect.Modifier;
import java.nio.file.Files;
import java.nio.file.Path;
import java.util.HashMap;
import java.util.HashSet;
import java.util.Map;
import java.util.Set;
import java.util.regex.Matcher;
import java.util.regex.Pattern;

/** That README.md tells what is so: its example's answers, every call of the face, what each can refuse. */
public final class ReadmeTest {
    private static final Due due = new Due();
    private static final Pattern ANSWERED = Pattern.compile("x\\.(\\w+)\\(([^)]*)\\); +// (-?\\d+)\\b.*");
    private static final Pattern WRITTEN = Pattern.compile("String text = \"([^\"]*)\";");
    private static final Pattern ROW = Pattern.compile("\\| `(\\w+)\\(([^)]*)\\)` \\| .* \\|([^|]*)\\|");
    private static final Pattern CONSTANT = Pattern.compile("\\| `([A-Z]+)` \\| (-\\d) \\| .*");
    private static final Pattern PROMISED = Pattern.compile("`int (\\w+)\\(([^)]*)\\)`: (.*)");

    public static void main(String[] args) throws Exception {
        // handed the class's path, from which the page's own is had
        Path main = Path.of(args.length > 0 ? args[0] : "src/main/java/LetterNeedles.java").toAbsolutePath();
        Path project = main.getParent().getParent().getParent().getParent();
        String page = Files.readString(project.resolve("README.md"));
        example(page);
        constants(page);
        calls(page, project.resolve("../shared/DOC.md"));
        due.holds("the page tells of 512 calls and of .ci/run", page.contains("512 calls") && page.contains(".ci/run"));
        due.end();
    }

    private static Map<String, Method> face() {
        Map<String, Method> face = new HashMap<>();
        for (Method m : LetterNeedles.class.getDeclaredMethods()) {
            if (Modifier.isPublic(m.getModifiers())) face.put(m.getName(), m);
        }
        return face;
    }

    private static void example(String page) throws Exception {
        Map<String, Method> face = face();
        LetterNeedles x = new LetterNeedles();
        int answered = 0;
        for (String line : page.split("\n")) {
            Matcher written = WRITTEN.matcher(line);
            if (written.matches()) Due.writeAll(x, written.group(1));
            Matcher m = ANSWERED.matcher(line);
            if (!m.matches()) continue;
            String[] given = m.group(2).isEmpty() ? new String[0] : m.group(2).split(", ");
            Object[] numbers = new Object[given.length];
            for (int i = 0; i < given.length; i++) numbers[i] = Integer.parseInt(given[i]);
            due.is(line, (Integer) face.get(m.group(1)).invoke(x, numbers), Integer.parseInt(m.group(3)));
            answered++;
        }
        due.is("answers in the example", answered, 13);
    }

    private static void constants(String page) throws Exception {
        Set<String> told = new HashSet<>();
        Matcher m = CONSTANT.matcher(page);
        while (m.find()) {
            told.add(m.group(1));
            due.is(m.group(1), LetterNeedles.class.getField(m.group(1)).getInt(null), Integer.parseInt(m.group(2)));
        }
        due.holds("all four constants: " + told, told.equals(Set.of("BAD", "NO", "FULL", "NONE")));
    }

    private static void calls(String page, Path document) throws IOException {
        Map<String, String> promised = promises(document);
        Set<String> told = new HashSet<>();
        for (String line : page.split("\n")) {
            Matcher m = ROW.matcher(line);
            if (!m.matches()) continue;
            due.holds(m.group(1) + " is told once", told.add(m.group(1)));
            String here = m.group(2) + ":" + refusals(m.group(3));
            due.holds(m.group(1) + " is told as " + here, here.equals(promised.get(m.group(1))));
        }
        due.holds("every promised call is told", told.equals(promised.keySet()));
        due.holds("every call of the face is told", told.equals(face().keySet()));
    }

    /** By call: what it is given and what it can refuse, as the document says. */
    private static Map<String, String> promises(Path document) throws IOException {
        Map<String, String> promised = new HashMap<>();
        for (String line : Files.readAllLines(document)) {
            Matcher m = PROMISED.matcher(line);
            if (m.matches()) promised.put(m.group(1), m.group(2).replace("int ", "") + ":" + refusals(m.group(3)));
        }
        due.is("calls that are promised", promised.size(), 35);
        return promised;
    }

    private static String refusals(String text) {
        StringBuilder found = new StringBuilder();
        for (String one : new String[] {"BAD", "NO", "FULL", "NONE"}) {
            if (Pattern.compile("\\b" + one + "\\b").matcher(text).find()) found.append(' ').append(one);
        }
        return found.toString();
    }
}
