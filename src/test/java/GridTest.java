import java.lang.reflect.Method;
import java.lang.reflect.Modifier;
import java.util.HashMap;
import java.util.Map;

/** Every call with every number that stands at some bound, and those next to it, against the model. */
public final class GridTest {
    private static final Due DUE = new Due("GridTest");
    private static final int CALLS = 512;
    private static final int[] NUMBERS = {Integer.MIN_VALUE, Integer.MIN_VALUE + 1, -1000000, -100, -7, -6, -5, -4, -3,
        -2, -1, 0, 1, 2, 3, 4, 5, 6, 7, 9, 10, 15, 16, 31, 32, 33, 34, 63, 64, 99, 100, 101, 126, 127, 128, 147, 148,
        256, 998, 999, 1000, 4444, 44444, 44445, 65536, 99999, 100000, 999999, 1000000, 1 << 30,
        Integer.MAX_VALUE - 1, Integer.MAX_VALUE};
    private static final String[] NO_NUMBER = {"wipe", "fault", "pieces", "good", "bar"};
    private static final String[] ONE_NUMBER = {"say", "terms", "choices", "whole", "coin", "anew", "looser", "names",
        "image", "restore", "told"};
    private static final String[] TWO_NUMBERS = {"about", "later", "by", "best", "agree", "audit"};
    private static final String[] THREE_NUMBERS = {"piece", "uses", "more"};
    private static final Map<String, Method> METHODS = new HashMap<>();

    private static UnderTerms x;
    private static Model m;
    private static int calls;
    private static int asked;

    public static void main(String[] args) {
        findMethods(UnderTerms.class);
        findMethods(Model.class);
        // Each round goes on from another state: empty at first, then with terms, PIECES and IMAGES.
        for (int round = 0; round < 3; round++) {
            begin(round);
            for (String call : NO_NUMBER) {
                ask(round, call, 0, 0, 0);
            }
            for (int a : NUMBERS) {
                for (String call : ONE_NUMBER) {
                    ask(round, call, a, 0, 0);
                }
                for (int b : NUMBERS) {
                    for (String call : TWO_NUMBERS) {
                        ask(round, call, a, b, 0);
                    }
                    for (int c : NUMBERS) {
                        for (String call : THREE_NUMBERS) {
                            ask(round, call, a, b, c);
                        }
                    }
                }
            }
        }
        int n = NUMBERS.length;
        DUE.is("calls", asked, 3 * (5 + 11 * n + 6 * n * n + 3 * n * n * n));
        DUE.end();
    }

    private static void begin(int round) {
        x = new UnderTerms();
        m = new Model();
        calls = 0;
        String[] texts = round == 1 ? new String[] {"n0", "sp1:12", "3:01234"} : new String[] {"ac2:04", "c3:4"};
        for (int t = 0; t < texts.length && round > 0; t++) {
            for (char sign : texts[t].toCharArray()) {
                both("say", sign, 0, 0);
            }
            both("terms", t, 0, 0);
        }
        for (int p = 0; p < 6 && round > 0; p++) {
            both("piece", p, 0, 1 + p % 3 * round);
            both("piece", p, 2, 63 - p);
            both("uses", 5, p, round);
            both("uses", p, 1, p % 4);
        }
        if (round == 2) {
            both("image", 1, 0, 0);
            both("later", 1, 3, 0);
            both("piece", 5, 1, 1);
        }
    }

    private static void ask(int round, String call, int a, int b, int c) {
        if (calls >= CALLS - 200) {
            askAll();
            begin(round);
        }
        asked++;
        both(call, a, b, c);
    }

    /** All that is told of the state; some 170 calls. */
    private static void askAll() {
        for (int what = 0; what < 148; what++) {
            both("told", what, 0, 0);
        }
        for (int t = 0; t < 5; t++) {
            for (int what = 0; what < 4; what++) {
                both("about", t, what, 0);
            }
        }
        both("fault", 0, 0, 0);
        both("terms", 0, 0, 0);
    }

    private static void both(String call, int a, int b, int c) {
        calls++;
        int[] numbers = {a, b, c};
        DUE.is(call + "(" + a + ", " + b + ", " + c + ")", answer(x, call, numbers), answer(m, call, numbers));
    }

    /** The call takes as many of the numbers as it has parameters. */
    private static int answer(Object of, String call, int[] numbers) {
        try {
            Method method = METHODS.get(of.getClass().getName() + call);
            Object[] taken = new Object[method.getParameterCount()];
            for (int i = 0; i < taken.length; i++) {
                taken[i] = numbers[i];
            }
            return (Integer) method.invoke(of, taken);
        } catch (ReflectiveOperationException e) {
            throw new IllegalStateException(call, e);
        }
    }

    private static void findMethods(Class<?> of) {
        for (Method method : of.getDeclaredMethods()) {
            if (!Modifier.isPrivate(method.getModifiers())) {
                METHODS.put(of.getName() + method.getName(), method);
            }
        }
    }
}
