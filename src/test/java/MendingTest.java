/** Promises 17 to 20. */
public final class MendingTest {
    private static final Due DUE = new Due("MendingTest");
    private static final int NONE = UnderTerms.NONE, UNKNOWN = UnderTerms.UNKNOWN, OUTSIDE = UnderTerms.OUTSIDE;

    public static void main(String[] args) {
        bar();
        barOfTies();
        anew();
        anewKeepsUses();
        looser();
        looserTies();
        looserOfTheWhole();
        agree();
        DUE.end();
    }

    /** 5, which may go under 0 to 2, USES 4, 3 and 2, which let it go under two each: any two let it go. */
    private static UnderTerms threeBar() {
        UnderTerms x = new UnderTerms();
        x.piece(5, 0, 7);
        String[] texts = {"0:01", "0:02", "0:12"};
        for (int t = 0; t < 3; t++) {
            Calls.terms(x, t, texts[t]);
            x.piece(2 + t, 0, 1 << t);
            x.uses(5, 2 + t, 0);
        }
        return x;
    }

    private static void bar() {
        DUE.is("17: some is GOOD", new UnderTerms().bar(), UnderTerms.STATE);
        UnderTerms x = threeBar();
        DUE.is("17: three bar each other", x.bar(), 28);
        x.uses(5, 2, 1);
        DUE.is("17: two do not", x.bar(), UnderTerms.STATE);
        x.uses(5, 2, 0);
        x.piece(5, 0, 6);
        DUE.is("17: two bar THE WHOLE", x.bar(), 12);
        x.piece(5, 0, 4);
        DUE.is("17: one bars THE WHOLE", x.bar(), 4);
    }

    private static void barOfTies() {
        UnderTerms x = new UnderTerms();
        x.piece(5, 0, 3);
        Calls.terms(x, 0, "0:0");
        Calls.terms(x, 1, "0:1");
        for (int p = 1; p < 5; p++) {
            x.piece(p, 0, 1 + p / 3);
            x.uses(5, p, 0);
        }
        DUE.is("17: the least as bits", x.bar(), 2 + 8);
        Calls.terms(x, 1, "0:2");
        DUE.is("17: the fewest ahead of the least", x.bar(), 8);
    }

    private static void anewIs(UnderTerms x, String when, int set, int cost) {
        DUE.is("18: " + when + ", PIECES", x.anew(0), set);
        DUE.is("18: " + when + ", coin", x.anew(1), cost);
    }

    private static void anew() {
        anewIs(new UnderTerms(), "nothing to mend", 0, 0);
        UnderTerms x = threeBar();
        anewIs(x, "the least as bits", 4, 10);
        x.piece(3, 3, 9);
        anewIs(x, "the least coin", 8, 9);
        x.piece(5, 0, 8);
        anewIs(x, "all", 28, 29);
        x.piece(2, 3, 999);
        x.piece(3, 3, 999);
        x.piece(4, 3, 999);
        anewIs(x, "all, dearest", 28, 2997);
        DUE.is("18: anew(2)", x.anew(2), OUTSIDE);
        DUE.is("18: anew(-1)", x.anew(-1), OUTSIDE);
        UnderTerms two = threeBar();
        two.piece(5, 0, 1);
        two.piece(2, 0, 4);
        two.piece(3, 3, 0);
        anewIs(two, "for no coin, but no more than need be", 20, 20);
        two.piece(2, 3, 0);
        two.piece(4, 3, 0);
        anewIs(two, "all for no coin: the fewest", 20, 0);
    }

    private static void anewKeepsUses() {
        UnderTerms x = new UnderTerms();
        Calls.terms(x, 1, "0:1");
        x.piece(4, 0, 2);
        x.piece(3, 0, 2);
        x.piece(3, 3, 50);
        x.uses(5, 4, 0);
        x.uses(4, 3, 0);
        anewIs(x, "what it USES still REACHES", 24, 60);
    }

    private static void looserIs(UnderTerms x, String when, int pair, int cost) {
        DUE.is("19: " + when + ", pair", x.looser(0), pair);
        DUE.is("19: " + when + ", coin", x.looser(1), cost);
    }

    private static void looser() {
        looserIs(new UnderTerms(), "nothing to mend", 0, 0);
        UnderTerms x = threeBar();
        looserIs(x, "from 0 to 1", 1, 15);
        x.coin(7);
        looserIs(x, "a dearer step", 1, 21);
        Calls.terms(x, 0, "1:01");
        looserIs(x, "one REACHES further", 1, 21);
        Calls.terms(x, 1, "1:02");
        Calls.terms(x, 2, "1:12");
        looserIs(x, "two steps", 2, 42);
        Calls.terms(x, 0, "2:01");
        Calls.terms(x, 1, "2:02");
        Calls.terms(x, 2, "2:12");
        looserIs(x, "three steps", 3, 63);
        Calls.terms(x, 0, "3:01");
        Calls.terms(x, 1, "3:02");
        Calls.terms(x, 2, "3:12");
        looserIs(x, "by none", NONE, NONE);
        DUE.is("19: looser(2)", x.looser(2), OUTSIDE);
        DUE.is("19: looser(-1)", x.looser(-1), OUTSIDE);
        DUE.is("19: looser(2), nothing to mend", new UnderTerms().looser(2), OUTSIDE);
    }

    private static void looserTies() {
        UnderTerms x = new UnderTerms();
        Calls.terms(x, 1, "1:1");
        x.piece(4, 0, 2);
        x.uses(5, 4, 1);
        looserIs(x, "from 1 to 2", 12, 5);
        x.coin(0);
        looserIs(x, "for no coin: the least to", 12, 0);
        x.uses(5, 3, 0);
        x.uses(3, 2, 1);
        x.piece(2, 0, 2);
        looserIs(x, "for no coin: still from 1", 12, 0);
        x.uses(5, 4, -1);
        looserIs(x, "for no coin: the least from", 2, 0);
        x.coin(1);
        looserIs(x, "the least coin ahead of the least from", 12, 1);
        x.uses(5, 3, 2);
        Calls.terms(x, 1, "2:1");
        looserIs(x, "as dear: the least from", 23, 1);
    }

    private static void looserOfTheWhole() {
        UnderTerms x = new UnderTerms();
        x.whole(4);
        Calls.terms(x, 1, "0:1");
        x.piece(3, 0, 2);
        x.uses(4, 3, 0);
        x.uses(5, 2, 0);
        x.uses(2, 1, 0);
        looserIs(x, "USES out of THE WHOLE do not count", 1, 5);
        x.uses(3, 1, 0);
        looserIs(x, "USES by its PIECES do", 1, 10);
    }

    private static void agree() {
        UnderTerms x = new UnderTerms();
        x.uses(5, 4, 3);
        x.uses(4, 0, 0);
        x.piece(5, 2, 1);
        x.piece(4, 2, 6);
        x.piece(0, 2, 36);
        x.piece(3, 2, 8);
        DUE.is("20: all have it", x.agree(0, 0), 0);
        DUE.is("20: none has it", x.agree(1, 0), 39);
        DUE.is("20: one is written anew", x.agree(1, 1), 7);
        DUE.is("20: THE WHOLE is, too", x.agree(1, 33), 6);
        DUE.is("20: all are", x.agree(1, 63), 0);
        DUE.is("20: one not of THE WHOLE is", x.agree(1, 8), 39);
        x.later(0, 1);
        x.piece(0, 1, 1);
        DUE.is("20: LATER ones count", x.agree(1, 0), 7);
        x.piece(4, 2, 0);
        DUE.is("20: nobody owns it", x.agree(1, 32), 0);
        DUE.is("20: agree(5, 64)", x.agree(5, 64), UNKNOWN);
        DUE.is("20: agree(-1, 0)", x.agree(-1, 0), UNKNOWN);
        DUE.is("20: agree(4, 64)", x.agree(4, 64), OUTSIDE);
        DUE.is("20: agree(4, -1)", x.agree(4, -1), OUTSIDE);
    }
}
