import java.io.IOException;
import java.lang.reflect.InvocationTargetException;
import java.lang.reflect.Method;
import java.nio.file.Files;
import java.nio.file.Path;
import java.util.HashMap;
import java.util.Map;
import java.util.regex.Matcher;
import java.util.regex.Pattern;

/** README.md: the answers of its example, the calls and the findings of its tables. */
public final class ReadmeTest {
    private static final Pattern BLOCK = Pattern.compile("```java\n(.*?)```", Pattern.DOTALL);
    private static final Pattern CALL =
        Pattern.compile("(?:int (\\w+) = )?desk\\.(\\w+)\\((.*?)\\);(?:\\s+// (-?\\d+)(?::.*)?)?");

    private static final InstallDesk DESK = new InstallDesk();
    private static final Map<String, Integer> NAMED = new HashMap<>();
    private static int wrong = 0;
    private static int answers = 0;

    public static void main(String[] args) throws IOException, ReflectiveOperationException {
        String readme = Files.readString(Path.of("README.md"));
        String document = Files.readString(Path.of("../shared/DOC.md"));
        runExample(firstBlock(readme));
        dueCalls(firstBlock(document), readme);
        dueFindings(document, readme);
        System.out.println(wrong == 0 ? "README.md tells what is so, with " + answers + " answers"
            : wrong + " things in README.md are not so");
        if (wrong != 0) {
            System.exit(1);
        }
    }

    private static void due(String what, boolean fine) {
        if (!fine) {
            wrong++;
            System.out.println("README.md: " + what);
        }
    }

    private static String firstBlock(String text) {
        Matcher block = BLOCK.matcher(text);
        due("a block of Java is there", block.find());
        return block.group(1);
    }

    private static void runExample(String example) throws ReflectiveOperationException {
        for (String line : example.split("\n")) {
            if (!line.isEmpty() && !line.equals("InstallDesk desk = new InstallDesk();")) {
                runLine(line);
            }
        }
        due("the example tells some answers", answers > 10);
    }

    private static void runLine(String line) throws ReflectiveOperationException {
        Matcher call = CALL.matcher(line);
        due("this line can be read: " + line, call.matches());
        if (!call.matches()) {
            return;
        }
        int got = answer(call.group(2), call.group(3));
        if (call.group(1) != null) {
            NAMED.put(call.group(1), got);
        }
        if (call.group(4) != null) {
            answers++;
            due(line + " answered " + got, got == Integer.parseInt(call.group(4)));
        }
    }

    private static int answer(String name, String list) throws ReflectiveOperationException {
        String[] words = list.isEmpty() ? new String[0] : list.split(", ");
        Object[] values = new Object[words.length];
        for (int i = 0; i < words.length; i++) {
            Integer named = NAMED.get(words[i]);
            values[i] = named != null ? named : Integer.valueOf(words[i]);
        }
        for (Method m : InstallDesk.class.getMethods()) {
            if (m.getName().equals(name)) {
                return (int) m.invoke(DESK, values);
            }
        }
        throw new InvocationTargetException(null, "no such call: " + name);
    }

    /** Each call of the document's face, with its parameters, is in a table. */
    private static void dueCalls(String face, String readme) {
        Matcher call = Pattern.compile("public int (\\w+)\\((.*?)\\);").matcher(face);
        while (call.find()) {
            String told = call.group(1) + "(" + call.group(2).replaceAll("(int|boolean) ", "") + ")";
            due("nothing is said of " + told, readme.contains("`" + told + "`"));
        }
    }

    private static void dueFindings(String document, String readme) {
        Matcher all = Pattern.compile("FINDINGS are the answers below 0: (.*?)\\.").matcher(document);
        due("the document tells findings", all.find());
        for (String finding : all.group(1).split(", ")) {
            String[] nameAndNumber = finding.split(" ");
            String row = "| " + nameAndNumber[1] + " | " + nameAndNumber[0] + " |";
            due("no row begins with " + row, readme.contains("\n" + row));
        }
    }
}
