/** Every promise: a refused call answers the first refusal that fits, and changes nothing. */
public final class RefusalsTest {
    private static final Due DUE = new Due("RefusalsTest");
    private static final int UNKNOWN = UnderTerms.UNKNOWN, OUTSIDE = UnderTerms.OUTSIDE, STATE = UnderTerms.STATE,
        FULL = UnderTerms.FULL, NO = UnderTerms.NO;
    private static final int[] WRONG = {Integer.MIN_VALUE, -1000, -7, 1000000, Integer.MAX_VALUE};

    private static UnderTerms x;
    private static String before;

    public static void main(String[] args) {
        unknown();
        outside();
        unknownAheadOfOutside();
        state();
        full();
        no();
        questionsChangeNothing();
        DUE.end();
    }

    /** An object in which nothing is as at first, but that THE WHOLE may go. */
    private static void begin() {
        x = new UnderTerms();
        for (int t = 0; t < 5; t++) {
            Calls.terms(x, t, "nspac".charAt(t) + "1:" + t);
            x.later(t, (t + 2) % 5);
        }
        for (int p = 0; p < 6; p++) {
            x.piece(p, 0, 31 - p);
            x.piece(p, 1, 1);
            x.piece(p, 2, 7 * p + 3);
            x.piece(p, 3, 20 + p);
        }
        x.whole(4);
        x.coin(9);
        x.uses(4, 3, 1);
        x.uses(3, 1, 0);
        Calls.say(x, "ns2:3");
        before = Calls.state(x);
    }

    private static void refused(String call, int got, int want) {
        DUE.is(call, got, want);
        DUE.same(call + " has changed something", Calls.state(x), before);
        begin();
    }

    private static void unknown() {
        begin();
        for (int w : WRONG) {
            refused("terms(" + w + ")", x.terms(w), UNKNOWN);
            refused("about(" + w + ", 0)", x.about(w, 0), UNKNOWN);
            refused("later(" + w + ", 0)", x.later(w, 0), UNKNOWN);
            refused("piece(" + w + ", 0, 3)", x.piece(w, 0, 3), UNKNOWN);
            refused("uses(" + w + ", 0, 0)", x.uses(w, 0, 0), UNKNOWN);
            refused("uses(5, " + w + ", 0)", x.uses(5, w, 0), UNKNOWN);
            refused("choices(" + w + ")", x.choices(w), UNKNOWN);
            refused("whole(" + w + ")", x.whole(w), UNKNOWN);
            refused("best(0, " + w + ")", x.best(0, w), UNKNOWN);
            refused("agree(" + w + ", 0)", x.agree(w, 0), UNKNOWN);
            refused("more(" + w + ", 0, 0)", x.more(w, 0, 0), UNKNOWN);
            refused("audit(" + w + ", 0)", x.audit(w, 0), UNKNOWN);
        }
    }

    private static void outside() {
        begin();
        for (int w : WRONG) {
            refused("say(" + w + ")", x.say(w), OUTSIDE);
            refused("about(0, " + w + ")", x.about(0, w), OUTSIDE);
            refused("later(0, " + w + ")", x.later(0, w), OUTSIDE);
            refused("piece(0, " + w + ", 1)", x.piece(0, w, 1), OUTSIDE);
            for (int what = 0; what < 4; what++) {
                refused("piece(0, " + what + ", " + w + ")", x.piece(0, what, w), OUTSIDE);
            }
            refused("uses(4, 3, " + w + ")", x.uses(4, 3, w), OUTSIDE);
            refused("coin(" + w + ")", x.coin(w), OUTSIDE);
            refused("by(" + w + ", 0)", x.by(w, 0), OUTSIDE);
            refused("by(0, " + w + ")", x.by(0, w), OUTSIDE);
            refused("best(" + w + ", -1)", x.best(w, -1), OUTSIDE);
            refused("anew(" + w + ")", x.anew(w), OUTSIDE);
            refused("looser(" + w + ")", x.looser(w), OUTSIDE);
            refused("agree(0, " + w + ")", x.agree(0, w), OUTSIDE);
            refused("more(0, " + w + ", 0)", x.more(0, w, 0), OUTSIDE);
            refused("more(0, 0, " + w + ")", x.more(0, 0, w), OUTSIDE);
            refused("audit(3, " + w + ")", x.audit(3, w), OUTSIDE);
            refused("image(" + w + ")", x.image(w), OUTSIDE);
            refused("restore(" + w + ")", x.restore(w), OUTSIDE);
            refused("told(" + w + ")", x.told(w), OUTSIDE);
        }
    }

    private static void unknownAheadOfOutside() {
        begin();
        refused("about(5, 4)", x.about(5, 4), UNKNOWN);
        refused("later(5, 5)", x.later(5, 5), UNKNOWN);
        refused("piece(6, 4, 0)", x.piece(6, 4, 0), UNKNOWN);
        refused("piece(6, 0, 0)", x.piece(6, 0, 0), UNKNOWN);
        refused("uses(6, 0, 4)", x.uses(6, 0, 4), UNKNOWN);
        refused("uses(3, 3, 4)", x.uses(3, 3, 4), UNKNOWN);
        refused("best(3, 6)", x.best(3, 6), UNKNOWN);
        refused("agree(5, 64)", x.agree(5, 64), UNKNOWN);
        refused("more(4, 4, 0)", x.more(4, 4, 0), UNKNOWN);
        refused("more(5, 0, 3)", x.more(5, 0, 3), UNKNOWN);
        refused("audit(6, 2)", x.audit(6, 2), UNKNOWN);
    }

    private static void state() {
        begin();
        refused("bar()", x.bar(), STATE);
        refused("more(3, 0, 0)", x.more(3, 0, 0), STATE);
        refused("more(3, 4, 0), OUTSIDE ahead of STATE", x.more(3, 4, 0), OUTSIDE);
        refused("more(3, 0, 3), OUTSIDE ahead of STATE", x.more(3, 0, 3), OUTSIDE);
        refused("restore(0)", x.restore(0), STATE);
        refused("restore(1)", x.restore(1), STATE);
        refused("restore(2), OUTSIDE ahead of STATE", x.restore(2), OUTSIDE);
    }

    private static void full() {
        begin();
        Calls.say(x, "456789012345678");
        before = Calls.state(x);
        DUE.is("signs", x.told(0), 20);
        DUE.is("say(32), OUTSIDE ahead of FULL", x.say(32), OUTSIDE);
        DUE.is("say('n')", x.say('n'), FULL);
        DUE.same("FULL has changed something", Calls.state(x), before);
        DUE.is("wipe()", x.wipe(), 20);
    }

    private static void no() {
        begin();
        x.say('3');
        before = Calls.state(x);
        DUE.is("terms(0)", x.terms(0), NO);
        DUE.is("terms(5), UNKNOWN ahead of NO", x.terms(5), UNKNOWN);
        DUE.same("NO has changed something", Calls.state(x), before);
    }

    private static void questionsChangeNothing() {
        for (int n = -1; n < 7; n++) {
            begin();
            x.fault();
            x.about(n, 0);
            x.choices(n);
            x.pieces();
            x.by(0, n);
            x.best(0, n);
            x.good();
            x.anew(n);
            x.looser(n);
            x.agree(n, 5);
            x.more(n, 2, 0);
            x.names(n);
            x.audit(n, 0);
            x.told(n);
            x.image(n);
            DUE.same("a question has changed something, " + n, Calls.state(x), before);
        }
    }
}
