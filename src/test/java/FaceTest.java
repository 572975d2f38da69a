import java.io.IOException;
import java.lang.reflect.Constructor;
import java.lang.reflect.Field;
import java.lang.reflect.Method;
import java.lang.reflect.Modifier;
import java.nio.file.Files;
import java.nio.file.Path;
import java.util.ArrayList;
import java.util.Arrays;
import java.util.HashSet;
import java.util.List;
import java.util.Set;
import java.util.TreeSet;
import java.util.regex.Matcher;
import java.util.regex.Pattern;

/** The public face, and the rules of LANGUAGE.md that the class and its text show. */
public final class FaceTest {
    private static final Path SOURCE = Path.of("src/main/java/InstallDesk.java");
    private static final String[] FACE = {"letter 1", "product 3", "as 2", "rule 2", "unrule 1",
        "fits 2", "host 2", "moved 2", "find 3", "goes 1", "by 1", "counts 1", "finds 1", "drop 1",
        "today 1", "kept 1", "has 2", "measure 2", "all 1", "use 4", "at 2", "peak 1", "right 6",
        "amount 2", "may 2", "needs 0", "lack 0", "cost 0", "of 2", "without 1", "spared 1",
        "when 1", "keep 0", "back 0", "told 1"};

    private static int wrong = 0;

    private static void due(String what, boolean fine) {
        if (!fine) {
            wrong++;
            System.out.println("not as due: " + what);
        }
    }

    public static void main(String[] args) throws IOException {
        dueClass();
        dueMethods();
        dueFields(InstallDesk.class);
        dueInside();
        List<String> lines = Files.readAllLines(SOURCE);
        dueText(lines);
        dueMadeOnce(lines);
        dueHeadings(lines);
        dueShortMethods(lines);
        System.out.println(wrong == 0 ? "the face is as due" : wrong + " things are not as due");
        if (wrong != 0) {
            System.exit(1);
        }
    }

    private static void dueClass() {
        int m = InstallDesk.class.getModifiers();
        due("public and final", Modifier.isPublic(m) && Modifier.isFinal(m));
        due("no package", InstallDesk.class.getPackageName().isEmpty());
        Constructor<?>[] made = InstallDesk.class.getDeclaredConstructors();
        due("one constructor", made.length == 1 && Modifier.isPublic(made[0].getModifiers())
            && made[0].getParameterCount() == 0);
    }

    private static void dueMethods() {
        Set<String> open = new TreeSet<>();
        Set<String> openNames = new HashSet<>();
        List<String> hidden = new ArrayList<>();
        for (Method m : InstallDesk.class.getDeclaredMethods()) {
            if (Modifier.isPrivate(m.getModifiers())) {
                hidden.add(m.getName());
                continue;
            }
            due(m + " is public", Modifier.isPublic(m.getModifiers()));
            due(m + " is no static one", !Modifier.isStatic(m.getModifiers()));
            due(m + " answers int", m.getReturnType() == int.class);
            dueParameters(m);
            open.add(m.getName() + " " + m.getParameterCount());
            openNames.add(m.getName());
        }
        due("the methods " + open, open.equals(new TreeSet<>(Arrays.asList(FACE))));
        for (String name : hidden) {
            due("a private name of its own: " + name, !openNames.contains(name));
        }
    }

    private static void dueParameters(Method m) {
        Class<?>[] types = m.getParameterTypes();
        for (int i = 0; i < types.length; i++) {
            boolean truth = m.getName().equals("of") && i == 1;
            due(m + ", parameter " + i, types[i] == (truth ? boolean.class : int.class));
        }
    }

    private static void dueFields(Class<?> c) {
        for (Field f : c.getDeclaredFields()) {
            int m = f.getModifiers();
            due(f + " is private", Modifier.isPrivate(m));
            due(f + " is final, if static", !Modifier.isStatic(m) || Modifier.isFinal(m));
        }
    }

    private static void dueInside() {
        Class<?>[] inside = InstallDesk.class.getDeclaredClasses();
        due("at most twelve classes", inside.length + 1 <= 12);
        for (Class<?> c : inside) {
            due(c + " is static", Modifier.isStatic(c.getModifiers()));
            due(c + " is hidden", Modifier.isPrivate(c.getModifiers()));
            dueFields(c);
            long held = Arrays.stream(c.getDeclaredFields())
                .filter(f -> !Modifier.isStatic(f.getModifiers())).count();
            due(c + " has at most twenty fields", held <= 20);
            for (Method m : c.getDeclaredMethods()) {
                due(m + " takes at most seven", m.getParameterCount() <= 7);
            }
        }
    }

    private static void dueText(List<String> lines) {
        Pattern banned = Pattern.compile("\\b(throw|throws|try|catch|synchronized|assert|while|do"
            + "|transient|volatile|native|Object|System\\.(?!arraycopy)|Random|Thread)\\b|->|::");
        for (int i = 0; i < lines.size(); i++) {
            String line = lines.get(i).replaceFirst("^\\s*(//|/?\\*).*", "");
            due("line " + (i + 1) + ": " + line, !banned.matcher(line).find());
            boolean import_ = line.startsWith("import ");
            due("import: " + line, !import_ || line.equals("import java.util.Arrays;"));
        }
    }

    /** Calls make nothing: all rows are made with the object that holds them. */
    private static void dueMadeOnce(List<String> lines) {
        for (String line : lines) {
            boolean making = line.matches(".*\\bnew\\b.*");
            due("made once: " + line, !making || line.trim().startsWith("private final "));
        }
    }

    /** What the interface says ahead of calls, and the calls in the document's order. */
    private static void dueHeadings(List<String> lines) {
        String[][] heads = {{"letters, rules, products", "letter"}, {"hosts, finds", "host"},
            {"uses", "use"}, {"rights", "right"}, {"the whole", "keep"}};
        List<String> said = new ArrayList<>();
        Pattern line = Pattern.compile("^    (?:// ---- (.*)|public int (\\w+)\\(.*)$");
        for (String text : lines) {
            Matcher m = line.matcher(text);
            if (m.matches()) {
                said.add(m.group(1) != null ? "---- " + m.group(1) : m.group(2));
            }
        }
        List<String> wanted = new ArrayList<>();
        for (String call : FACE) {
            String name = call.split(" ")[0];
            for (String[] head : heads) {
                if (head[1].equals(name)) {
                    wanted.add("---- " + head[0]);
                }
            }
            wanted.add(name);
        }
        due("headings and calls " + said, said.equals(wanted));
    }

    private static void dueShortMethods(List<String> lines) {
        Pattern head = Pattern.compile("^( {4,8})(public|private) [^=;]*\\(.*\\) \\{$");
        for (int i = 0; i < lines.size(); i++) {
            Matcher m = head.matcher(lines.get(i));
            if (m.matches()) {
                int end = i;
                while (end < lines.size() && !lines.get(end).equals(m.group(1) + "}")) {
                    end++;
                }
                due("a short method: " + lines.get(i), end - i <= 40);
            }
        }
    }
}
