import java.io.File;
import java.io.IOException;
import java.lang.reflect.Method;
import java.lang.reflect.Modifier;
import java.nio.file.Files;
import java.nio.file.Path;
import java.util.ArrayList;
import java.util.Arrays;
import java.util.List;
import java.util.Set;
import java.util.TreeSet;
import java.util.regex.Matcher;
import java.util.regex.Pattern;

/** README.md: its example answers as it says, and no call and no test is missing there. Runs in the project's root. */
public final class ReadmeTest {
    private static final Due DUE = new Due("ReadmeTest");
    private static final String CONSTANTS = "NONE|UNKNOWN|OUTSIDE|STATE|FULL|NO";
    private static final Pattern CALL =
        Pattern.compile("x\\.(\\w+)\\((.*?)\\); +// (-?\\d+|" + CONSTANTS + ")(: .*)?");
    private static final Pattern ROW = Pattern.compile("\\| `(\\w+)\\((.*?)\\)` \\|.*");
    private static final Pattern TEST = Pattern.compile("\\| (\\w+Test) \\|.*");
    private static final Pattern REFUSAL = Pattern.compile("`(" + CONSTANTS + ")` (-\\d)");

    public static void main(String[] args) throws Exception {
        List<String> page = Files.readAllLines(Path.of("README.md"));
        DUE.same("the calls in its tables", callsInTables(page).toString(), face().toString());
        DUE.same("the calls in its examples", example(page).toString(), namesOf(face()).toString());
        DUE.same("the tests in its table", testsInTable(page).toString(), tests().toString());
        refusals(page);
        DUE.end();
    }

    /** Each public method with how many numbers it takes. */
    private static Set<String> face() {
        Set<String> face = new TreeSet<>();
        for (Method m : UnderTerms.class.getDeclaredMethods()) {
            if (Modifier.isPublic(m.getModifiers())) {
                face.add(m.getName() + " " + m.getParameterCount());
            }
        }
        return face;
    }

    private static Set<String> namesOf(Set<String> face) {
        Set<String> names = new TreeSet<>();
        for (String call : face) {
            names.add(call.substring(0, call.indexOf(' ')));
        }
        return names;
    }

    private static Set<String> callsInTables(List<String> page) {
        Set<String> calls = new TreeSet<>();
        for (String line : page) {
            Matcher row = ROW.matcher(line);
            if (row.matches()) {
                calls.add(row.group(1) + " " + split(row.group(2)).size());
            }
        }
        return calls;
    }

    private static List<String> split(String arguments) {
        return arguments.isEmpty() ? new ArrayList<>() : Arrays.asList(arguments.split(", "));
    }

    /** Makes every call of the examples, and answers which there were. A line that can not be tried is wrong. */
    private static Set<String> example(List<String> page) throws Exception {
        Set<String> called = new TreeSet<>();
        UnderTerms x = null;
        boolean inside = false;
        for (String line : page) {
            if (line.startsWith("```")) {
                inside = line.equals("```java");
            } else if (inside && line.equals("UnderTerms x = new UnderTerms();")) {
                x = new UnderTerms();
            } else if (inside && !line.isEmpty() && !line.startsWith("//")) {
                called.add(tryLine(x, line));
            }
        }
        return called;
    }

    private static String tryLine(UnderTerms x, String line) throws Exception {
        Matcher call = CALL.matcher(line);
        if (!call.matches()) {
            DUE.same("a line of the example", line, "a call with its answer");
            return "";
        }
        List<String> arguments = split(call.group(2));
        Class<?>[] types = new Class<?>[arguments.size()];
        Object[] values = new Object[arguments.size()];
        for (int i = 0; i < values.length; i++) {
            types[i] = int.class;
            values[i] = number(arguments.get(i));
        }
        Object got = UnderTerms.class.getMethod(call.group(1), types).invoke(x, values);
        DUE.is(line, (Integer) got, answer(call.group(3)));
        return call.group(1);
    }

    private static int number(String argument) {
        return argument.matches("'.'") ? argument.charAt(1) : Integer.parseInt(argument);
    }

    private static int answer(String written) throws Exception {
        return written.matches("-?\\d+") ? Integer.parseInt(written) : UnderTerms.class.getField(written).getInt(null);
    }

    private static Set<String> testsInTable(List<String> page) {
        Set<String> tests = new TreeSet<>();
        for (String line : page) {
            Matcher row = TEST.matcher(line);
            if (row.matches()) {
                tests.add(row.group(1));
            }
        }
        return tests;
    }

    private static Set<String> tests() throws IOException {
        Set<String> tests = new TreeSet<>();
        File[] files = new File("src/test/java").listFiles();
        if (files == null) {
            throw new IOException("no src/test/java here");
        }
        for (File file : files) {
            if (file.getName().endsWith("Test.java")) {
                tests.add(file.getName().replace(".java", ""));
            }
        }
        return tests;
    }

    /** The numbers that stand behind the constants. */
    private static void refusals(List<String> page) throws Exception {
        Set<String> seen = new TreeSet<>();
        Matcher m = REFUSAL.matcher(String.join("\n", page));
        while (m.find()) {
            seen.add(m.group(1));
            DUE.is(m.group(1), answer(m.group(2)), answer(m.group(1)));
        }
        DUE.same("the constants", seen.toString(), new TreeSet<>(Arrays.asList(CONSTANTS.split("\\|"))).toString());
    }
}
