import java.io.IOException;
import java.lang.reflect.Constructor;
import java.lang.reflect.Field;
import java.lang.reflect.Method;
import java.lang.reflect.Modifier;
import java.nio.file.Files;
import java.nio.file.Path;
import java.util.Arrays;
import java.util.HashSet;
import java.util.Random;
import java.util.Set;
import java.util.TreeSet;
import java.util.regex.Pattern;

/** The public face, the rules of LANGUAGE.md that can be looked up, and that no call throws whatever it is given. */
public final class FaceTest {
    private static final Due due = new Due();
    private static final String[] FACE = {
        "write 1", "wipe 0", "fault 0", "lay 0", "needle 2", "wire 2", "spelt 2",
        "send 1", "cut 1", "turn 1", "touch 1", "mend 1", "change 2", "undo 0", "reads 0",
        "said 4", "pace 2", "clear 1", "like 1", "mending 3", "changing 4", "order 2",
        "see 2", "canBe 0", "tries 1", "hear 1", "fits 0", "forget 1",
        "duel 2", "odds 3", "mean 3", "day 3", "keep 0", "back 0", "count 1",
    };
    private static final int[] EDGES = {
        Integer.MIN_VALUE, Integer.MIN_VALUE + 1, -65536, -32, -5, -4, -3, -2, -1, 0, 1, 2, 3, 4, 5, 6, 7, 8, 9, 10, 11,
        19, 20, 29, 30, 31, 32, 33, 60, 61, 126, 127, 9999, 10000, 65536, 1 << 30, Integer.MAX_VALUE - 1, Integer.MAX_VALUE,
    };

    public static void main(String[] args) throws Exception {
        constants();
        methods();
        inner();
        source(args.length > 0 ? args[0] : "src/main/java/LetterNeedles.java");
        nothingThrows();
        due.end();
    }

    private static void constants() {
        due.is("BAD", LetterNeedles.BAD, -1);
        due.is("NO", LetterNeedles.NO, -2);
        due.is("FULL", LetterNeedles.FULL, -3);
        due.is("NONE", LetterNeedles.NONE, -4);
    }

    private static void methods() {
        Set<String> told = new TreeSet<>(Arrays.asList(FACE));
        Set<String> found = new TreeSet<>();
        due.is("methods told", told.size(), 35);
        for (Method m : LetterNeedles.class.getDeclaredMethods()) {
            if (Modifier.isPrivate(m.getModifiers())) continue;
            found.add(m.getName() + " " + m.getParameterCount());
            due.holds(m + " is public, not static", Modifier.isPublic(m.getModifiers()) && !Modifier.isStatic(m.getModifiers()));
            due.holds(m + " answers an int", m.getReturnType() == int.class);
            for (Class<?> type : m.getParameterTypes()) due.holds(m + " takes ints", type == int.class);
        }
        due.holds("the methods are the told ones: " + found, found.equals(told));
        due.holds("the class is public and final", Modifier.isPublic(LetterNeedles.class.getModifiers())
            && Modifier.isFinal(LetterNeedles.class.getModifiers()));
        Constructor<?>[] made = LetterNeedles.class.getDeclaredConstructors();
        due.is("constructors", made.length, 1);
        due.holds("the constructor is public, of nothing", Modifier.isPublic(made[0].getModifiers()) && made[0].getParameterCount() == 0);
        for (Field f : LetterNeedles.class.getDeclaredFields()) {
            boolean isTold = Set.of("BAD", "NO", "FULL", "NONE").contains(f.getName());
            due.holds(f + " is private or told", isTold ? Modifier.isPublic(f.getModifiers()) : Modifier.isPrivate(f.getModifiers()));
        }
    }

    private static void inner() {
        Set<String> names = new HashSet<>();
        for (String one : FACE) names.add(one.substring(0, one.indexOf(' ')));
        Class<?>[] classes = LetterNeedles.class.getDeclaredClasses();
        due.holds("at most twelve classes", classes.length + 1 <= 12);
        for (Class<?> c : classes) {
            due.holds(c + " is static, not public", Modifier.isStatic(c.getModifiers()) && !Modifier.isPublic(c.getModifiers())
                && !Modifier.isProtected(c.getModifiers()));
            for (Method m : c.getDeclaredMethods()) {
                due.holds(m + " bears a name of its own", !names.contains(m.getName()));
                due.holds(m + " takes at most seven", m.getParameterCount() <= 7);
            }
            for (Field f : c.getDeclaredFields()) {
                due.holds(f + " is final, if static", !Modifier.isStatic(f.getModifiers()) || Modifier.isFinal(f.getModifiers()));
            }
        }
        for (Method m : LetterNeedles.class.getDeclaredMethods()) {
            due.holds(m + " bears a name of its own", Modifier.isPublic(m.getModifiers()) || !names.contains(m.getName()));
        }
    }

    private static void source(String path) throws IOException {
        String all = Files.readString(Path.of(path));
        String code = all.replaceAll("(?s)/\\*.*?\\*/", " ").replaceAll("//[^\n]*", " ").replaceAll("\"[^\"\n]*\"", "\"\"");
        for (String word : new String[] {"throw", "throws", "try", "catch", "finally", "synchronized", "assert", "package",
            "Random", "System", "Thread", "Object", "toString", "hashCode", "instanceof", "double", "float"}) {
            due.holds("no " + word, !Pattern.compile("\\b" + word + "\\b").matcher(code).find());
        }
        due.holds("no lambda, no method reference", !code.contains("->") && !code.contains("::"));
        due.holds("no Exact", !code.contains("Exact"));
        due.holds("only signs of ASCII", all.chars().allMatch(c -> c == '\n' || c >= 32 && c < 127));
        for (String line : code.split("\n")) {
            if (line.startsWith("import ")) due.holds(line, line.equals("import java.util.Arrays;"));
            // all rows are made with the object, so that calls make none
            if (line.contains("new ")) {
                due.holds("made with the object: " + line.trim(), line.contains(" final ") || line.contains("[i] = new Line()"));
            }
        }
    }

    private static void nothingThrows() throws Exception {
        Random random = new Random(36);
        Method[] calls = LetterNeedles.class.getMethods();
        Arrays.sort(calls, (a, b) -> a.getName().compareTo(b.getName()));
        for (int run = 0; run < 60; run++) {
            LetterNeedles x = run % 3 == 0 ? new LetterNeedles() : Due.laid("n0,5;n2,3;c1;t2;j0;j2;mABCDEFGH;mZ;");
            for (int i = 0; i < 512; i++) {
                Method m = calls[random.nextInt(calls.length)];
                if (m.getDeclaringClass() != LetterNeedles.class) continue;
                Object[] given = new Object[m.getParameterCount()];
                for (int k = 0; k < given.length; k++) given[k] = EDGES[random.nextInt(EDGES.length)];
                due.holds(m.getName() + Arrays.toString(given), (Integer) m.invoke(x, given) >= LetterNeedles.NONE);
            }
        }
    }
}
