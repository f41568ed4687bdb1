import java.lang.reflect.Constructor;
import java.lang.reflect.Field;
import java.lang.reflect.Method;
import java.lang.reflect.Modifier;
import java.util.Arrays;
import java.util.HashSet;
import java.util.Set;
import java.util.TreeSet;

/** The public face is the document's, and nothing else can be seen from outside. */
public final class FaceTest {
    private static final Due DUE = new Due("FaceTest");
    private static final String[] METHODS = {
        "say 1", "wipe 0", "fault 0", "terms 1", "about 2", "later 2", "piece 3", "uses 3", "choices 1", "whole 1",
        "coin 1", "pieces 0", "by 2", "best 2", "good 0", "bar 0", "anew 1", "looser 1", "agree 2", "more 3",
        "names 1", "audit 2", "image 1", "restore 1", "told 1"};

    public static void main(String[] args) {
        constants();
        fields();
        methods();
        constructors();
        classesInside();
        DUE.is("public and final", UnderTerms.class.getModifiers(), Modifier.PUBLIC | Modifier.FINAL);
        DUE.end();
    }

    private static void constants() {
        DUE.is("NONE", UnderTerms.NONE, -6);
        DUE.is("UNKNOWN", UnderTerms.UNKNOWN, -1);
        DUE.is("OUTSIDE", UnderTerms.OUTSIDE, -2);
        DUE.is("STATE", UnderTerms.STATE, -3);
        DUE.is("FULL", UnderTerms.FULL, -4);
        DUE.is("NO", UnderTerms.NO, -5);
    }

    private static void fields() {
        Set<String> seen = new TreeSet<>();
        for (Field f : UnderTerms.class.getDeclaredFields()) {
            if (!Modifier.isPrivate(f.getModifiers())) {
                seen.add(Modifier.toString(f.getModifiers()) + " " + f.getType() + " " + f.getName());
            }
        }
        Set<String> want = new TreeSet<>();
        for (String name : new String[] {"NONE", "UNKNOWN", "OUTSIDE", "STATE", "FULL", "NO"}) {
            want.add("public static final int " + name);
        }
        DUE.same("fields", seen.toString(), want.toString());
    }

    private static void methods() {
        Set<String> seen = new TreeSet<>();
        Set<String> hidden = new HashSet<>();
        for (Method m : UnderTerms.class.getDeclaredMethods()) {
            if (Modifier.isPrivate(m.getModifiers())) {
                hidden.add(m.getName());
            } else {
                seen.add(m.getName() + " " + m.getParameterCount());
                boolean ints = m.getReturnType() == int.class
                    && Arrays.stream(m.getParameterTypes()).allMatch(type -> type == int.class);
                DUE.is(m.getName() + " is public, of ints", ints && m.getModifiers() == Modifier.PUBLIC ? 1 : 0, 1);
            }
        }
        DUE.same("methods", seen.toString(), new TreeSet<>(Arrays.asList(METHODS)).toString());
        for (String method : METHODS) {
            DUE.is("a private method bears the name of " + method,
                hidden.contains(method.substring(0, method.indexOf(' '))) ? 1 : 0, 0);
        }
    }

    private static void constructors() {
        Constructor<?>[] all = UnderTerms.class.getDeclaredConstructors();
        DUE.is("constructors", all.length, 1);
        DUE.is("its parameters", all[0].getParameterCount(), 0);
        DUE.is("it is public", all[0].getModifiers(), Modifier.PUBLIC);
    }

    private static void classesInside() {
        for (Class<?> inside : UnderTerms.class.getDeclaredClasses()) {
            int m = inside.getModifiers();
            DUE.is(inside + " is not public", Modifier.isPublic(m) || Modifier.isProtected(m) ? 1 : 0, 0);
            DUE.is(inside + " is static", Modifier.isStatic(m) ? 1 : 0, 1);
        }
    }
}
