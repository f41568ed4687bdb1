/** Promises 17 to 20: each sentence that names a bound. */
public final class BoundsOfMendingTest {
    private static final Due DUE = new Due("BoundsOfMendingTest");
    private static final Edges EDGES = new Edges(DUE);
    private static final int NONE = UnderTerms.NONE, UNKNOWN = UnderTerms.UNKNOWN, OUTSIDE = UnderTerms.OUTSIDE,
        STATE = UnderTerms.STATE;

    public static void main(String[] args) {
        promise17SomeChosenIsGood();
        promise17OnePiece();
        promise17AllPieces();
        promise17FewestThenLeast();
        promise17OthersReachNothing();
        promise17NotOfTheWhole();
        promise18What();
        promise18NothingToMend();
        promise18LeastAndDearest();
        promise18LeastCoinThenFewestThenLeast();
        promise18UsesWhatItDid();
        promise18NotTheWholeItself();
        promise19What();
        promise19SomeIsGood();
        promise19ByNone();
        promise19EachPair();
        promise19LeastAndDearest();
        promise19LeastCoinThenFromThenTo();
        promise19UsesOfTheWhole();
        promise20TermsAndBits();
        promise20NobodyAndAll();
        promise20SaidAnew();
        promise20Choices();
        DUE.end();
    }

    /** 5, under terms 0, USES the set by KIND 0; each of the set, under terms 1, lets it go under 1 alone. */
    private static UnderTerms barredBy(int set, int reach) {
        UnderTerms x = new UnderTerms();
        Calls.terms(x, 1, reach + ":1");
        for (int p = 0; p < 5; p++) {
            if ((set & 1 << p) != 0) {
                x.piece(p, 0, 2);
                x.uses(5, p, 0);
            }
        }
        return x;
    }

    private static UnderTerms barred() {
        return barredBy(31, 0);
    }

    /** 5, under terms 0 and 1, USES all: 0 and 1 let it go under 0 alone, 4 under 1 alone, 2 and 3 under both. */
    private static UnderTerms twoAgainstOne() {
        UnderTerms x = new UnderTerms();
        x.piece(5, 0, 3);
        Calls.terms(x, 0, "0:0");
        Calls.terms(x, 1, "0:1");
        Calls.terms(x, 2, "0:01");
        int[] offered = {1, 1, 4, 4, 2};
        for (int p = 0; p < 5; p++) {
            x.piece(p, 0, offered[p]);
            x.uses(5, p, 0);
        }
        return x;
    }

    private static void promise17SomeChosenIsGood() {
        EDGES.refusedOn("17: a new object", UnderTerms::new, UnderTerms::bar, STATE);
        UnderTerms x = barred();
        for (int p = 0; p < 5; p++) {
            x.piece(p, 0, 3);
        }
        DUE.is("17: one CHOSEN of 32 is GOOD", x.good(), 1);
        DUE.is("17: one is enough", x.bar(), STATE);
        x.piece(2, 0, 2);
        DUE.is("17: none is", x.bar(), 4);
        EDGES.changesNothing("17: a question", BoundsOfMendingTest::barred, UnderTerms::bar, 1);
    }

    private static void promise17OnePiece() {
        for (int p = 0; p < 5; p++) {
            DUE.is("17: PIECE " + p + " alone", barredBy(1 << p, 0).bar(), 1 << p);
        }
        UnderTerms x = new UnderTerms();
        Calls.terms(x, 1, "3:1");
        x.whole(1);
        x.uses(1, 0, 3);
        x.piece(0, 0, 2);
        DUE.is("17: the smallest WHOLE", x.bar(), 1);
    }

    /** PIECE p lets a whole go under all but terms p: the PIECES up to the last terms of THE WHOLE bar each other. */
    private static void promise17AllPieces() {
        for (int last = 0; last < 5; last++) {
            UnderTerms x = new UnderTerms();
            x.piece(5, 0, (1 << last + 1) - 1);
            for (int p = 0; p < 5; p++) {
                Calls.terms(x, p, "0:" + "01234".replace("" + p, ""));
                x.piece(p, 0, 1 << p);
                x.uses(5, p, 0);
            }
            DUE.is("17: the PIECES up to " + last, x.bar(), (1 << last + 1) - 1);
            x.uses(5, last, 1);
            DUE.is("17: but one of them", x.bar(), STATE);
        }
    }

    private static void promise17FewestThenLeast() {
        for (int set = 1; set < 32; set++) {
            DUE.is("17: each of " + set + " alone", barredBy(set, 0).bar(), set & -set);
        }
        UnderTerms x = twoAgainstOne();
        DUE.is("17: the least pair", x.bar(), 1 + 16);
        x.uses(5, 0, 1);
        DUE.is("17: the other pair", x.bar(), 2 + 16);
        x.uses(5, 0, 0);
        Calls.terms(x, 2, "0:2");
        x.piece(2, 0, 1);
        DUE.is("17: one is fewer than the least pair", x.bar(), 8);
    }

    private static void promise17OthersReachNothing() {
        UnderTerms x = new UnderTerms();
        Calls.terms(x, 1, "0:1");
        for (int p = 1; p < 6; p++) {
            x.uses(p, p - 1, 0);
        }
        x.piece(0, 0, 2);
        DUE.is("17: through others that REACH nothing", x.bar(), 1);
    }

    private static void promise17NotOfTheWhole() {
        UnderTerms x = barredBy(16, 0);
        x.piece(0, 0, 2);
        x.uses(3, 0, 0);
        DUE.is("17: what THE WHOLE does not USE bars nothing", x.bar(), 16);
        x.whole(3);
        DUE.is("17: another WHOLE", x.bar(), 1);
        x.whole(4);
        DUE.is("17: a WHOLE without PIECES", x.bar(), STATE);
    }

    private static void anewIs(String when, UnderTerms x, int set, int cost) {
        DUE.is("18: " + when + ", PIECES", x.anew(0), set);
        DUE.is("18: " + when + ", coin", x.anew(1), cost);
    }

    private static void promise18What() {
        EDGES.beyond("18: anew(_)", 0, 1, UnderTerms::anew, OUTSIDE);
        for (int what : new int[] {Integer.MIN_VALUE, -1, 2, Integer.MAX_VALUE}) {
            EDGES.refusedOn("18: anew(" + what + "), barred", BoundsOfMendingTest::barred, x -> x.anew(what), OUTSIDE);
        }
        EDGES.changesNothing("18: PIECES", BoundsOfMendingTest::barred, x -> x.anew(0), 31);
        EDGES.changesNothing("18: coin", BoundsOfMendingTest::barred, x -> x.anew(1), 50);
    }

    private static void promise18NothingToMend() {
        anewIs("a new object", new UnderTerms(), 0, 0);
        UnderTerms x = barred();
        x.piece(5, 0, 2);
        anewIs("some is GOOD", x, 0, 0);
        for (int p = 0; p < 6; p++) {
            x.piece(p, 3, 0);
        }
        anewIs("some is GOOD, and all cost nothing", x, 0, 0);
    }

    private static void promise18LeastAndDearest() {
        UnderTerms x = barred();
        anewIs("at first", x, 31, 50);
        for (int p = 0; p < 5; p++) {
            x.piece(p, 3, 999);
        }
        anewIs("the dearest", x, 31, 4995);
        x.piece(4, 3, 1000);
        anewIs("dearer is refused", x, 31, 4995);
        for (int p = 0; p < 5; p++) {
            x.piece(p, 3, 0);
        }
        anewIs("for nothing", x, 31, 0);
        for (int p = 0; p < 5; p++) {
            UnderTerms one = barredBy(1 << p, 0);
            one.piece(p, 3, 999);
            anewIs("one, " + p, one, 1 << p, 999);
        }
    }

    private static void promise18LeastCoinThenFewestThenLeast() {
        UnderTerms x = twoAgainstOne();
        anewIs("the least coin is the fewest", x, 16, 10);
        x.piece(0, 3, 4);
        x.piece(1, 3, 5);
        anewIs("the least coin, not the fewest", x, 3, 9);
        x.piece(1, 3, 6);
        anewIs("as dear: the fewest, not the least as bits", x, 16, 10);
        x.piece(1, 3, 7);
        anewIs("dearer", x, 16, 10);
        for (int p = 0; p < 5; p++) {
            x.piece(p, 3, 0);
        }
        anewIs("all for nothing: the fewest", x, 16, 0);
        x.uses(5, 0, 1);
        anewIs("all for nothing, as many: the least as bits", x, 2, 0);
        x.piece(1, 3, 1);
        anewIs("a coin more", x, 16, 0);
        x.piece(4, 3, 1);
        anewIs("as dear, as many: the least as bits", x, 2, 1);
    }

    private static void promise18UsesWhatItDid() {
        UnderTerms x = new UnderTerms();
        Calls.terms(x, 1, "0:1");
        for (int p = 1; p < 6; p++) {
            x.uses(p, p - 1, 0);
        }
        x.piece(0, 0, 2);
        x.piece(0, 3, 999);
        anewIs("the last of a chain, however dear", x, 1, 999);
        x.piece(4, 0, 2);
        anewIs("both ends of a chain", x, 17, 1009);
    }

    private static void promise18NotTheWholeItself() {
        UnderTerms x = barredBy(1, 0);
        x.piece(5, 3, 0);
        x.piece(4, 3, 0);
        x.piece(0, 3, 999);
        anewIs("neither itself nor what is not of it", x, 1, 999);
        x.uses(5, 4, 0);
        anewIs("no PIECE that bars nothing, though it costs nothing", x, 1, 999);
    }

    private static void looserIs(String when, UnderTerms x, int pair, int cost) {
        DUE.is("19: " + when + ", pair", x.looser(0), pair);
        DUE.is("19: " + when + ", coin", x.looser(1), cost);
    }

    private static void promise19What() {
        EDGES.beyond("19: looser(_)", 0, 1, UnderTerms::looser, OUTSIDE);
        for (int what : new int[] {Integer.MIN_VALUE, -1, 2, Integer.MAX_VALUE}) {
            EDGES.refusedOn("19: looser(" + what + "), barred", BoundsOfMendingTest::barred, x -> x.looser(what),
                OUTSIDE);
        }
        EDGES.changesNothing("19: pair", BoundsOfMendingTest::barred, x -> x.looser(0), 1);
        EDGES.changesNothing("19: coin", BoundsOfMendingTest::barred, x -> x.looser(1), 25);
    }

    private static void promise19SomeIsGood() {
        EDGES.changesNothing("19: pair, a new object", UnderTerms::new, x -> x.looser(0), 0);
        EDGES.changesNothing("19: coin, a new object", UnderTerms::new, x -> x.looser(1), 0);
        UnderTerms x = barred();
        x.piece(5, 0, 2);
        x.coin(99);
        looserIs("some is GOOD", x, 0, 0);
    }

    private static void promise19ByNone() {
        UnderTerms x = barredBy(1, 3);
        looserIs("it REACHES by every KIND", x, NONE, NONE);
        x.uses(5, 0, 3);
        looserIs("there is no greater KIND", x, NONE, NONE);
        x.coin(0);
        looserIs("not for nothing either", x, NONE, NONE);
        UnderTerms two = barredBy(3, 0);
        Calls.terms(two, 1, "1:1");
        two.uses(5, 1, 1);
        looserIs("both KINDS would have to become others", two, NONE, NONE);
    }

    /** One use of a KIND; the REACH of what bars is the KIND ahead of the one that is needed. */
    private static void promise19EachPair() {
        for (int from = 0; from <= 2; from++) {
            for (int to = from + 1; to <= 3; to++) {
                UnderTerms x = barredBy(4, to - 1);
                x.uses(5, 2, from);
                looserIs("from " + from + " to " + to, x, 10 * from + to, 5 * (to - from));
            }
        }
        looserIs("from 3 there is none", withKind3(), NONE, NONE);
    }

    private static UnderTerms withKind3() {
        UnderTerms x = barredBy(4, 3);
        x.uses(5, 2, 3);
        return x;
    }

    private static void promise19LeastAndDearest() {
        UnderTerms x = barredBy(31, 2);
        for (int p = 1; p < 6; p++) {
            for (int other = 0; other < p; other++) {
                x.uses(p, other, 0);
            }
        }
        looserIs("at first", x, 3, 3 * 5 * 15);
        x.coin(99);
        looserIs("the dearest", x, 3, 3 * 99 * 15);
        x.coin(1);
        looserIs("a coin a step", x, 3, 45);
        x.coin(0);
        looserIs("for nothing", x, 3, 0);
        UnderTerms one = barredBy(1, 0);
        one.coin(1);
        looserIs("one step for one coin", one, 1, 1);
    }

    /** 5 USES 4 by KIND 0, 4 USES 3 by KIND 1, and 3 bars where all KINDS are 1 at most. */
    private static UnderTerms twoKinds() {
        UnderTerms x = new UnderTerms();
        Calls.terms(x, 1, "1:1");
        x.piece(3, 0, 2);
        x.uses(5, 4, 0);
        x.uses(4, 3, 1);
        return x;
    }

    private static void promise19LeastCoinThenFromThenTo() {
        UnderTerms x = twoKinds();
        looserIs("the least coin, not the least from", x, 12, 5);
        x.uses(5, 2, 1);
        looserIs("as dear: the least from", x, 2, 10);
        x.uses(5, 1, 1);
        looserIs("dearer", x, 2, 10);
        UnderTerms y = twoKinds();
        y.coin(0);
        looserIs("for nothing: the least from, then to", y, 2, 0);
        UnderTerms z = barredBy(1, 0);
        z.coin(0);
        looserIs("for nothing: the least to", z, 1, 0);
        UnderTerms last = barredBy(1, 1);
        last.uses(5, 0, 1);
        last.coin(0);
        looserIs("for nothing: the least to from 1", last, 12, 0);
    }

    private static void promise19UsesOfTheWhole() {
        UnderTerms x = barredBy(1, 0);
        x.uses(4, 3, 0);
        looserIs("USES that are not of THE WHOLE", x, 1, 5);
        x.uses(5, 4, 3);
        looserIs("USES by its PIECES", x, 1, 10);
        x.uses(5, 4, 1);
        looserIs("USES of other KINDS", x, 1, 10);
        UnderTerms y = new UnderTerms();
        Calls.terms(y, 1, "0:1");
        y.piece(0, 0, 2);
        y.whole(1);
        y.uses(1, 0, 0);
        y.uses(5, 1, 0);
        y.uses(2, 1, 0);
        looserIs("USES of THE WHOLE by others", y, 1, 5);
    }

    private static void promise20TermsAndBits() {
        for (int anew : new int[] {0, 63}) {
            EDGES.beyond("20: agree(_, " + anew + ")", 0, 4, (x, t) -> x.agree(t, anew), UNKNOWN);
        }
        for (int t : new int[] {0, 4}) {
            EDGES.beyond("20: agree(" + t + ", _)", 0, 63, (x, anew) -> x.agree(t, anew), OUTSIDE);
        }
        EDGES.refused("20: UNKNOWN ahead of OUTSIDE", x -> x.agree(5, 64), UNKNOWN);
        EDGES.refused("20: UNKNOWN ahead of OUTSIDE, below", x -> x.agree(-1, -1), UNKNOWN);
        EDGES.changesNothing("20: the first TERMS", UnderTerms::new, x -> x.agree(0, 0), 0);
        EDGES.changesNothing("20: the last TERMS", UnderTerms::new, x -> x.agree(4, 0), 1);
        EDGES.changesNothing("20: the greatest bits", UnderTerms::new, x -> x.agree(4, 63), 0);
    }

    /** All PIECES are of THE WHOLE; PIECE p is owned by p alone. */
    private static UnderTerms ownedByOneEach() {
        UnderTerms x = new UnderTerms();
        for (int p = 0; p < 6; p++) {
            x.piece(p, 2, 1 << p);
            if (p < 5) {
                x.uses(5, p, 3);
            }
        }
        return x;
    }

    private static void promise20NobodyAndAll() {
        UnderTerms x = ownedByOneEach();
        DUE.is("20: nobody, all have it", x.agree(0, 0), 0);
        DUE.is("20: all", x.agree(4, 0), 63);
        x.piece(3, 2, 0);
        DUE.is("20: one has no OWNERS", x.agree(4, 0), 63 - 8);
        x.piece(3, 2, 63);
        DUE.is("20: one has all OWNERS", x.agree(4, 63 - 8), 63);
        for (int p = 0; p < 6; p++) {
            x.piece(p, 2, 0);
        }
        DUE.is("20: none has OWNERS", x.agree(4, 0), 0);
        UnderTerms alone = ownedByOneEach();
        for (int p = 0; p < 5; p++) {
            alone.uses(5, p, -1);
        }
        DUE.is("20: THE WHOLE itself alone", alone.agree(4, 0), 32);
    }

    private static void promise20SaidAnew() {
        UnderTerms x = ownedByOneEach();
        for (int anew = 0; anew < 64; anew++) {
            DUE.is("20: written ANEW " + anew, x.agree(1, anew), 63 & ~anew);
        }
        x.uses(5, 2, -1);
        for (int anew = 0; anew < 64; anew++) {
            DUE.is("20: without 2, written ANEW " + anew, x.agree(1, anew), 63 & ~anew & ~4);
        }
    }

    private static void promise20Choices() {
        UnderTerms x = ownedByOneEach();
        x.later(0, 4);
        DUE.is("20: LATER ones, not OR LATER", x.agree(4, 0), 63);
        for (int p = 0; p < 6; p++) {
            x.piece(p, 1, 1);
            DUE.is("20: OR LATER up to " + p, x.agree(4, 0), 63 & ~((2 << p) - 1));
        }
        x.piece(5, 0, 8);
        DUE.is("20: THE WHOLE itself has it not", x.agree(4, 0), 32);
    }
}
