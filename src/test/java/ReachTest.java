/** Promises 13 to 16. */
public final class ReachTest {
    private static final Due DUE = new Due("ReachTest");
    private static final int NONE = UnderTerms.NONE, UNKNOWN = UnderTerms.UNKNOWN, OUTSIDE = UnderTerms.OUTSIDE;

    public static void main(String[] args) {
        pieces();
        byReach();
        byMusts();
        byMayGo();
        byDigits();
        bestMusts();
        bestByWay();
        bestTies();
        bestAnswers();
        good();
        DUE.end();
    }

    private static void pieces() {
        UnderTerms x = new UnderTerms();
        x.uses(4, 2, 3);
        x.uses(2, 0, 3);
        x.uses(3, 1, 0);
        DUE.is("13: nothing USED by THE WHOLE", x.pieces(), 32);
        x.uses(5, 4, 3);
        DUE.is("13: and so on", x.pieces(), 32 + 16 + 4 + 1);
        x.whole(2);
        DUE.is("13: another WHOLE", x.pieces(), 5);
        x.whole(5);
        x.uses(4, 2, -1);
        DUE.is("13: a use less", x.pieces(), 48);
    }

    /** 5 USES 1 by two ways: kinds 2 and 1, kind 3. */
    private static UnderTerms twoWays() {
        UnderTerms x = new UnderTerms();
        x.uses(5, 4, 2);
        x.uses(4, 1, 1);
        x.uses(5, 1, 3);
        return x;
    }

    private static void byReach() {
        int[] want = {0, 0, 16 + 2, 16 + 2};
        for (int reach = 0; reach <= 3; reach++) {
            UnderTerms x = twoWays();
            Calls.terms(x, 0, "n" + reach);
            DUE.is("14: who REACHES by " + reach, x.by(0, 0), want[reach]);
        }
        UnderTerms x = twoWays();
        x.uses(5, 1, 0);
        Calls.terms(x, 0, "0");
        DUE.is("14: the nearer way", x.by(0, 0), 2);
        Calls.terms(x, 1, "0");
        Calls.terms(x, 2, "2");
        x.piece(4, 0, 2);
        x.piece(1, 0, 4);
        x.uses(5, 1, -1);
        DUE.is("14: through a PIECE that does not REACH", x.by(10020, 0), 2);
    }

    private static void byMusts() {
        UnderTerms x = new UnderTerms();
        x.uses(5, 4, 1);
        x.uses(5, 3, 0);
        x.piece(4, 0, 3);
        x.piece(3, 0, 4);
        Calls.terms(x, 0, "nspac1");
        Calls.terms(x, 1, "nspac0");
        Calls.terms(x, 2, "a3");
        DUE.is("14: MUSTS handed out", x.by(2000, 1), 31);
        DUE.is("14: MUSTS served from afar", x.by(2000, 2), 22);
        DUE.is("14: MUSTS kept at home", x.by(2000, 3), 4);
        DUE.is("14: MUSTS of what REACHES alone", x.by(12000, 1), 8);
        DUE.is("14: notices are told where it is handed out alone", x.by(12000, 2), 0);
    }

    private static void byMayGo() {
        UnderTerms x = new UnderTerms();
        x.uses(5, 4, 1);
        x.uses(5, 3, 0);
        x.piece(5, 0, 22);
        x.piece(4, 0, 3);
        Calls.terms(x, 0, "1:0124");
        Calls.terms(x, 1, "0:0");
        DUE.is("14: MAY GO", x.by(0, 4), 22);
        DUE.is("14: who does not REACH lets it GO", x.by(10000, 4), 22);
        Calls.terms(x, 0, "1:013");
        DUE.is("14: fewer MAY GO", x.by(0, 4), 2);
        x.piece(5, 0, 4);
        DUE.is("14: none MAY GO", x.by(0, 4), 0);
        x.piece(5, 1, 1);
        x.later(2, 3);
        DUE.is("14: LATER ones of THE WHOLE", x.by(0, 4), 8);
    }

    private static void byDigits() {
        UnderTerms x = new UnderTerms();
        x.whole(4);
        x.uses(4, 3, 0);
        x.uses(4, 0, 0);
        x.piece(3, 0, 16);
        x.piece(0, 0, 6);
        DUE.is("14: as told", x.by(4002, 0), 9);
        DUE.is("14: not among CHOICES", x.by(4003, 0), OUTSIDE);
        DUE.is("14: not among CHOICES of PIECE 3", x.by(3002, 0), OUTSIDE);
        DUE.is("14: 0 not among CHOICES", x.by(2, 0), OUTSIDE);
        DUE.is("14: a digit of no TERMS", x.by(4009, 0), OUTSIDE);
        DUE.is("14: not of THE WHOLE", x.by(4012, 0), OUTSIDE);
        DUE.is("14: THE WHOLE itself", x.by(14002, 0), OUTSIDE);
        DUE.is("14: above THE WHOLE", x.by(104002, 0), OUTSIDE);
        DUE.is("14: seven digits", x.by(1004002, 0), OUTSIDE);
        DUE.is("14: ten digits", x.by(2000004002, 0), OUTSIDE);
        DUE.is("14: below 0", x.by(-4002, 0), OUTSIDE);
        DUE.is("14: the least number", x.by(Integer.MIN_VALUE, 0), OUTSIDE);
        DUE.is("14: what -1", x.by(4002, -1), OUTSIDE);
        DUE.is("14: what 5", x.by(4002, 5), OUTSIDE);
        UnderTerms five = new UnderTerms();
        five.uses(5, 4, 0);
        five.piece(5, 0, 31);
        DUE.is("14: six digits, THE WHOLE itself", five.by(100000, 0), OUTSIDE);
    }

    private static UnderTerms twoToChoose(String first, String second) {
        UnderTerms x = new UnderTerms();
        x.piece(5, 0, 31);
        x.uses(5, 4, 0);
        x.piece(4, 0, 3);
        Calls.terms(x, 0, first);
        Calls.terms(x, 1, second);
        return x;
    }

    private static void bestMusts() {
        DUE.is("15: the fewest MUSTS", twoToChoose("ns0", "c0").best(0, -1), 16);
        DUE.is("15: the least MUSTS", twoToChoose("c0", "s0").best(0, -1), 2);
        DUE.is("15: GOOD alone", twoToChoose("ns0", "0").best(0, -1), 0);
        UnderTerms x = twoToChoose("ns0:4", "0:0");
        x.piece(5, 0, 16);
        DUE.is("15: not GOOD", x.best(0, -1), 3);
        DUE.is("15: its TERMS", x.best(0, 4), 0);
        DUE.is("15: its MAY GO", x.best(0, -2), 16);
    }

    private static void bestByWay() {
        UnderTerms x = twoToChoose("na0", "p0");
        DUE.is("15: WAY 0", x.best(0, -1), 4);
        DUE.is("15: WAY 0, TERMS", x.best(0, 4), 1);
        DUE.is("15: WAY 1", x.best(1, -1), 0);
        DUE.is("15: WAY 1, TERMS", x.best(1, 4), 0);
        DUE.is("15: WAY 2", x.best(2, -1), 0);
        DUE.is("15: WAY 2, TERMS", x.best(2, 4), 0);
        UnderTerms y = twoToChoose("p0", "nsac0");
        DUE.is("15: p is kept at home, too", y.best(2, 4), 1);
        DUE.is("15: nothing else is", y.best(2, -1), 0);
    }

    private static void bestTies() {
        UnderTerms x = new UnderTerms();
        x.piece(5, 0, 31);
        x.uses(5, 0, 0);
        x.uses(5, 1, 0);
        x.piece(0, 0, 3);
        x.piece(1, 0, 3);
        Calls.terms(x, 0, "0:0");
        Calls.terms(x, 1, "0:1");
        DUE.is("15: first by PIECE 0", x.best(0, 0) * 10 + x.best(0, 1), 0);
        x.piece(1, 0, 2);
        DUE.is("15: bound by PIECE 1", x.best(0, 0) * 10 + x.best(0, 1), 11);
        x.piece(0, 0, 31);
        x.piece(1, 0, 31);
        Calls.terms(x, 0, "n0:0");
        Calls.terms(x, 2, "0:12");
        Calls.terms(x, 3, "0");
        Calls.terms(x, 4, "0:2");
        DUE.is("15: first by PIECE 0, then 1", x.best(0, 0) * 10 + x.best(0, 1), 11);
        DUE.is("15: MAY GO by these", x.best(0, -2), 2);
    }

    private static void bestAnswers() {
        UnderTerms x = twoToChoose("n0:4", "s0:4");
        DUE.is("15: a PIECE not of THE WHOLE", x.best(0, 3), NONE);
        DUE.is("15: THE WHOLE itself", x.best(0, 5), NONE);
        DUE.is("15: best(0, 6)", x.best(0, 6), UNKNOWN);
        DUE.is("15: best(0, -3)", x.best(0, -3), UNKNOWN);
        DUE.is("15: best(3, 6)", x.best(3, 6), UNKNOWN);
        DUE.is("15: best(3, 4)", x.best(3, 4), OUTSIDE);
        DUE.is("15: best(-1, -1)", x.best(-1, -1), OUTSIDE);
        x.piece(5, 0, 15);
        for (int piece = -2; piece < 6; piece++) {
            DUE.is("15: none is GOOD, " + piece, x.best(0, piece), NONE);
        }
        DUE.is("15: best(3, -1), none is GOOD", x.best(3, -1), OUTSIDE);
        DUE.is("15: a WHOLE that USES nothing", new UnderTerms().best(0, -2), 1);
    }

    private static void good() {
        DUE.is("16: a WHOLE that USES nothing", new UnderTerms().good(), 1);
        UnderTerms x = twoToChoose("n0:4", "s0:3");
        DUE.is("16: two", x.good(), 2);
        x.piece(5, 0, 16);
        DUE.is("16: one", x.good(), 1);
        x.piece(5, 0, 7);
        DUE.is("16: none", x.good(), 0);
        UnderTerms all = new UnderTerms();
        for (int p = 0; p < 5; p++) {
            all.uses(5, p, 0);
            all.piece(p, 0, 31);
        }
        DUE.is("16: all", all.good(), 3125);
        all.piece(2, 0, 5);
        all.piece(2, 1, 1);
        all.later(2, 3);
        DUE.is("16: by CHOICES", all.good(), 1875);
        DUE.is("16: asked again", all.good(), 1875);
        for (int t = 0; t < 5; t++) {
            Calls.terms(all, t, "0:" + t);
        }
        all.piece(2, 0, 31);
        all.piece(5, 0, 31);
        DUE.is("16: all alike", all.good(), 5);
    }
}
