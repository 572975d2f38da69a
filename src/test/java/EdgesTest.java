import java.io.IOException;
import java.lang.reflect.InvocationTargetException;
import java.lang.reflect.Method;
import java.nio.file.Files;
import java.nio.file.Path;
import java.util.ArrayList;
import java.util.Comparator;
import java.util.List;
import java.util.Map;
import java.util.TreeMap;
import java.util.TreeSet;

/**
 * Runs the tests of sentences (src/test/edges), and holds them against the document: each word of
 * its terms and promises is in a sentence that has a test, and no test quotes what is not there.
 */
public final class EdgesTest {
    private static final Path DOCUMENT = Path.of("../shared/DOC.md");
    private static final int PROMISES = 36;
    private static final Class<?>[] TESTS = {TermEdges.class, LetterEdges.class, HostEdges.class,
        UseEdges.class, RightEdges.class, WholeEdges.class};

    private static int wrong = 0;

    public static void main(String[] args) throws IOException, IllegalAccessException {
        List<Method> tests = tests();
        for (Method test : tests) {
            run(test);
        }
        Map<Integer, String> parts = parts(Files.readAllLines(DOCUMENT));
        due("the terms and all promises are there", parts.size() == PROMISES + 1);
        for (Map.Entry<Integer, String> part : parts.entrySet()) {
            dueQuoted(part.getKey(), part.getValue(), tests);
        }
        wrong += Check.wrongSoFar();
        System.out.println(wrong == 0 ? tests.size() + " tests of sentences: all is as due"
            : wrong + " things are not as due");
        if (wrong != 0) {
            System.exit(1);
        }
    }

    private static void due(String what, boolean fine) {
        if (!fine) {
            wrong++;
            System.out.println("not as due: " + what);
        }
    }

    private static List<Method> tests() {
        List<Method> tests = new ArrayList<>();
        for (Class<?> c : TESTS) {
            for (Method m : c.getDeclaredMethods()) {
                if (m.isAnnotationPresent(Says.class)) {
                    tests.add(m);
                }
            }
        }
        tests.sort(Comparator.comparing((Method m) -> m.getAnnotation(Says.class).part())
            .thenComparing(Method::getName));
        return tests;
    }

    private static void run(Method test) throws IllegalAccessException {
        Says says = test.getAnnotation(Says.class);
        Check.begin("promise " + says.part() + " (" + says.words() + "), " + test.getName());
        try {
            test.invoke(null);
        } catch (InvocationTargetException e) {
            wrong++;
            System.out.println(test.getName() + " threw " + e.getCause());
        }
    }

    /** The text of the terms (0) and of each promise, on one line each. */
    private static Map<Integer, String> parts(List<String> lines) {
        Map<Integer, String> parts = new TreeMap<>();
        int part = -1;
        for (String line : lines) {
            if (line.startsWith("## ")) {
                part = partOf(line);
            } else if (part >= 0) {
                parts.merge(part, told(line), (a, b) -> (a + " " + b).trim());
            }
        }
        parts.replaceAll((number, text) -> text.replaceAll("\\s+", " "));
        return parts;
    }

    private static int partOf(String heading) {
        if (heading.equals("## Terms")) {
            return 0;
        }
        return heading.startsWith("## Promise ")
            ? Integer.parseInt(heading.replaceFirst("## Promise (\\d+):.*", "$1")) : -1;
    }

    /** A line without what is no sentence: fences, numbers of terms, the call that is promised. */
    private static String told(String line) {
        // What the interface says ahead of calls is no behaviour: FaceTest looks at it.
        if (line.startsWith("```") || line.startsWith("Ahead of the calls ")) {
            return "";
        }
        return line.trim().replaceFirst("^\\d\\. ", "").replaceFirst("^`[^`]*`: ", "");
    }

    private static void dueQuoted(int part, String text, List<Method> tests) {
        TreeSet<String> quotes = new TreeSet<>(
            Comparator.comparing(String::length).reversed().thenComparing(s -> s));
        for (Method test : tests) {
            Says says = test.getAnnotation(Says.class);
            if (says.part() == part) {
                quotes.add(says.words());
            }
        }
        String rest = text;
        for (String quote : quotes) {
            int at = rest.indexOf(quote);
            due("part " + part + " says: " + quote, at >= 0);
            if (at >= 0) {
                rest = rest.substring(0, at) + "|" + rest.substring(at + quote.length());
            }
        }
        due("part " + part + " has no test for: " + rest, rest.replaceAll("[| ]", "").isEmpty());
    }
}
