import java.io.IOException;
import java.lang.reflect.Constructor;
import java.lang.reflect.Field;
import java.lang.reflect.Method;
import java.lang.reflect.Modifier;
import java.nio.file.Files;
import java.nio.file.Path;
import java.util.ArrayList;
import java.util.Arrays;
import java.util.HashSet;
import java.util.List;
import java.util.Set;
import java.util.regex.Matcher;
import java.util.regex.Pattern;

/** The public face, and the rules of LANGUAGE.md that the class and its text show. */
public final class FaceTest {
    private static final Path SOURCE = Path.of("src/main/java/InstallDesk.java");
    private static final Path DOCUMENT = Path.of("../shared/DOC.md");
    // What LANGUAGE.md lets the class take from the library, as far as it is written Name.name(..).
    private static final Pattern LIBRARY = Pattern.compile("System\\.arraycopy|Arrays\\.(copyOf"
        + "|copyOfRange|fill)|(Integer|Long|Math)\\.(?!\\w*Exact\\b)\\w+|List\\.of");

    private static int wrong = 0;

    private static void due(String what, boolean fine) {
        if (!fine) {
            wrong++;
            System.out.println("not as due: " + what);
        }
    }

    public static void main(String[] args) throws IOException {
        List<String> document = Files.readAllLines(DOCUMENT);
        List<String> lines = Files.readAllLines(SOURCE);
        dueFace(document, lines);
        dueHeadings(document, lines);
        dueClass();
        dueMethods();
        dueFields(InstallDesk.class);
        dueInside();
        dueText(lines);
        dueLibrary(lines);
        dueMadeOnce(lines);
        dueShortMethods(lines);
        System.out.println(wrong == 0 ? "the face is as due" : wrong + " things are not as due");
        if (wrong != 0) {
            System.exit(1);
        }
    }

    /** The class, its constructor and its calls, word by word and in the document's order. */
    private static void dueFace(List<String> document, List<String> lines) {
        List<String> wanted = publicLines(document, ";");
        due("the document has a face", wanted.size() > 2);
        due("the face " + publicLines(lines, " {"), publicLines(lines, " {").equals(wanted));
    }

    private static List<String> publicLines(List<String> lines, String end) {
        List<String> found = new ArrayList<>();
        for (String line : lines) {
            String text = line.trim();
            if (text.startsWith("public ")) {
                boolean ofClass = text.contains(" class ");
                found.add(text.replace(ofClass ? " {" : end, ""));
            }
        }
        return found;
    }

    /** What the interface says ahead of calls. */
    private static void dueHeadings(List<String> document, List<String> lines) {
        Pattern ahead = Pattern.compile("Ahead of the calls (.*) the interface says: ---- (.*)\\.");
        List<String> wanted = new ArrayList<>();
        for (String line : document) {
            Matcher m = ahead.matcher(line);
            if (m.matches()) {
                wanted.add("---- " + m.group(2));
                wanted.addAll(Arrays.asList(m.group(1).replace("`", "").split(", ")));
            }
        }
        List<String> said = new ArrayList<>();
        Pattern headOrCall = Pattern.compile("^    (?:// (---- .*)|public int (\\w+)\\(.*)$");
        for (String line : lines) {
            Matcher m = headOrCall.matcher(line);
            if (m.matches()) {
                said.add(m.group(1) != null ? m.group(1) : m.group(2));
            }
        }
        due("the document has headings", wanted.size() > 2);
        due("headings and calls " + said, said.equals(wanted));
    }

    private static void dueClass() {
        int m = InstallDesk.class.getModifiers();
        due("public and final", Modifier.isPublic(m) && Modifier.isFinal(m));
        due("no package", InstallDesk.class.getPackageName().isEmpty());
        Constructor<?>[] made = InstallDesk.class.getDeclaredConstructors();
        due("one constructor", made.length == 1 && Modifier.isPublic(made[0].getModifiers())
            && made[0].getParameterCount() == 0);
    }

    private static void dueMethods() {
        Set<String> open = new HashSet<>();
        List<Method> hidden = new ArrayList<>();
        for (Method m : InstallDesk.class.getDeclaredMethods()) {
            if (Modifier.isPrivate(m.getModifiers())) {
                hidden.add(m);
                continue;
            }
            due(m + " is public", Modifier.isPublic(m.getModifiers()));
            open.add(m.getName());
        }
        for (Class<?> c : InstallDesk.class.getDeclaredClasses()) {
            hidden.addAll(Arrays.asList(c.getDeclaredMethods()));
        }
        for (Method m : hidden) {
            due(m + " has a name of its own", !open.contains(m.getName()));
            due(m + " takes at most seven", m.getParameterCount() <= 7);
        }
    }

    private static void dueFields(Class<?> c) {
        for (Field f : c.getDeclaredFields()) {
            int m = f.getModifiers();
            due(f + " is private", Modifier.isPrivate(m));
            due(f + " is final, if static", !Modifier.isStatic(m) || Modifier.isFinal(m));
        }
    }

    private static void dueInside() {
        Class<?>[] inside = InstallDesk.class.getDeclaredClasses();
        due("at most twelve classes", inside.length + 1 <= 12);
        for (Class<?> c : inside) {
            due(c + " is static", Modifier.isStatic(c.getModifiers()));
            due(c + " is hidden", Modifier.isPrivate(c.getModifiers()));
            dueFields(c);
            long held = Arrays.stream(c.getDeclaredFields())
                .filter(f -> !Modifier.isStatic(f.getModifiers())).count();
            due(c + " has at most twenty fields", held <= 20);
        }
    }

    private static void dueText(List<String> lines) {
        Pattern banned = Pattern.compile("\\b(throw|throws|try|catch|synchronized|assert"
            + "|transient|volatile|native|Object|System\\.(?!arraycopy)|Random|Thread)\\b|->|::");
        for (int i = 0; i < lines.size(); i++) {
            String line = lines.get(i).replaceFirst("^\\s*(//|/?\\*).*", "");
            due("line " + (i + 1) + ": " + line, !banned.matcher(line).find());
            boolean import_ = line.startsWith("import ");
            due("import: " + line, !import_ || line.equals("import java.util.Arrays;"));
        }
    }

    private static void dueLibrary(List<String> lines) {
        Pattern qualified = Pattern.compile("\\b[A-Z]\\w*\\.\\w+(?=\\()");
        for (String line : lines) {
            Matcher m = qualified.matcher(line);
            while (m.find()) {
                due("from the library: " + m.group(), LIBRARY.matcher(m.group()).matches());
            }
        }
    }

    /** Calls make nothing: all rows are made with the object that holds them. */
    private static void dueMadeOnce(List<String> lines) {
        for (String line : lines) {
            boolean making = line.matches(".*\\bnew\\b.*");
            due("made once: " + line, !making || line.trim().startsWith("private final "));
        }
    }

    private static void dueShortMethods(List<String> lines) {
        Pattern head = Pattern.compile("^( {4,8})(public|private) [^=;]*\\(.*\\) \\{$");
        for (int i = 0; i < lines.size(); i++) {
            Matcher m = head.matcher(lines.get(i));
            if (m.matches()) {
                int end = i;
                while (end < lines.size() && !lines.get(end).equals(m.group(1) + "}")) {
                    end++;
                }
                due("a short method: " + lines.get(i), end - i <= 40);
            }
        }
    }
}
