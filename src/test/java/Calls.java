/** Short ways to bring an object into a state, and to look at all of it. */
final class Calls {
    private Calls() {
    }

    static void say(UnderTerms x, String signs) {
        for (char sign : signs.toCharArray()) {
            x.say(sign);
        }
    }

    static int fault(UnderTerms x, String signs) {
        x.wipe();
        say(x, signs);
        int fault = x.fault();
        x.wipe();
        return fault;
    }

    static int terms(UnderTerms x, int t, String text) {
        x.wipe();
        say(x, text);
        return x.terms(t);
    }

    /** All that is told of the state; some 70 calls. */
    static String state(UnderTerms x) {
        StringBuilder all = new StringBuilder();
        all.append("signs ").append(x.told(0)).append(" fault ").append(x.fault());
        all.append(" whole ").append(x.told(1)).append(" coin ").append(x.told(2)).append(" terms");
        for (int t = 0; t < 5; t++) {
            for (int what = 0; what < 4; what++) {
                all.append(' ').append(x.about(t, what));
            }
        }
        all.append(" pieces");
        for (int p = 0; p < 6; p++) {
            for (int row = 10; row <= 40; row += 10) {
                all.append(' ').append(x.told(row + p));
            }
            for (int other = 0; other < p; other++) {
                all.append(' ').append(x.told(100 + 8 * p + other));
            }
        }
        return all.toString();
    }
}
