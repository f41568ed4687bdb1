import java.lang.reflect.Field;
import java.lang.reflect.Method;
import java.lang.reflect.Modifier;
import java.nio.file.Files;
import java.nio.file.Path;
import java.util.ArrayList;
import java.util.Arrays;
import java.util.List;
import java.util.Set;
import java.util.TreeSet;
import java.util.regex.Matcher;
import java.util.regex.Pattern;

/** The rules of LANGUAGE.md that can be seen in the class's file or in its members. Runs in the project's root. */
public final class LanguageTest {
    private static final Due DUE = new Due("LanguageTest");
    private static final Pattern WORD = Pattern.compile("[A-Za-z_]\\w*");
    private static final Pattern LIBRARY = Pattern.compile("\\b(?:Integer|Long|Math|System|Arrays)\\.\\w+");
    private static final Pattern METHOD = Pattern.compile("( {4}| {8})[a-zA-Z].*\\) \\{");
    /** None of these is needed by the class, so that rules 2, 4, 6 and 12 hold without a closer look. */
    private static final Set<String> NOT_NEEDED = Set.of("package", "import", "throw", "throws", "try", "catch", "finally",
        "synchronized", "assert", "volatile", "transient", "native", "instanceof", "record", "interface", "enum", "var",
        "String", "StringBuilder", "ArrayList", "List", "Object", "double", "float", "protected", "do", "while");

    public static void main(String[] args) throws Exception {
        List<String> lines = Files.readAllLines(Path.of("src/main/java/UnderTerms.java"));
        String code = withoutComments(lines);
        words(code);
        library(code);
        methodsAreShort(lines);
        classes();
        DUE.end();
    }

    private static String withoutComments(List<String> lines) {
        return String.join("\n", lines).replaceAll("(?s)/\\*.*?\\*/", "").replaceAll("//[^\n]*", "");
    }

    private static void words(String code) {
        Set<String> seen = new TreeSet<>();
        Matcher word = WORD.matcher(code);
        while (word.find()) {
            if (NOT_NEEDED.contains(word.group())) {
                seen.add(word.group());
            }
        }
        DUE.same("words that the class does without", seen.toString(), "[]");
        DUE.is("a lambda", code.indexOf("->"), -1);
        DUE.is("a method reference", code.indexOf("::"), -1);
        DUE.is("a text", code.indexOf('"'), -1);
        DUE.is("signs beyond 126", code.chars().filter(sign -> sign > 126).count(), 0);
        DUE.is("a static block", Pattern.compile("static\\s*\\{").matcher(code).find() ? 1 : 0, 0);
    }

    private static void library(String code) {
        Set<String> seen = new TreeSet<>();
        Matcher call = LIBRARY.matcher(code);
        while (call.find()) {
            seen.add(call.group());
        }
        DUE.same("what it takes from the library", seen.toString(), "[Integer.bitCount, Math.max, System.arraycopy]");
    }

    private static void methodsAreShort(List<String> lines) {
        for (int from = 0; from < lines.size(); from++) {
            Matcher head = METHOD.matcher(lines.get(from));
            if (head.matches()) {
                int to = from;
                while (!lines.get(to).equals(head.group(1) + "}")) {
                    to++;
                }
                DUE.is("more than sixty lines:" + lines.get(from), to - from > 60 ? 1 : 0, 0);
            }
        }
    }

    private static void classes() {
        List<Class<?>> all = new ArrayList<>(Arrays.asList(UnderTerms.class.getDeclaredClasses()));
        all.add(UnderTerms.class);
        DUE.is("more than twelve classes", all.size() > 12 ? 1 : 0, 0);
        Set<String> face = new TreeSet<>();
        for (Method m : UnderTerms.class.getDeclaredMethods()) {
            if (Modifier.isPublic(m.getModifiers())) {
                face.add(m.getName());
            }
        }
        for (Class<?> c : all) {
            fields(c);
            // Rule 12: what takes nothing gets nothing of the object whose constructor makes it.
            DUE.is(c + " takes something when it is made", c.getDeclaredConstructors()[0].getParameterCount(), 0);
            for (Method m : c.getDeclaredMethods()) {
                DUE.is(c + " " + m.getName() + " takes more than seven", m.getParameterCount() > 7 ? 1 : 0, 0);
                boolean another = c != UnderTerms.class && face.contains(m.getName());
                DUE.is(c + " " + m.getName() + " bears the name of a call", another ? 1 : 0, 0);
            }
        }
    }

    private static void fields(Class<?> c) {
        int own = 0;
        for (Field f : c.getDeclaredFields()) {
            if (Modifier.isStatic(f.getModifiers())) {
                boolean constant = Modifier.isFinal(f.getModifiers()) && f.getType() == int.class;
                DUE.is(c + " " + f.getName() + " is a constant", constant ? 1 : 0, 1);
            } else {
                own++;
            }
        }
        DUE.is(c + " has more than twenty fields", own > 20 ? 1 : 0, 0);
    }
}
