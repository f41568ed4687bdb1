/** Promises 8 to 12: each sentence that names a bound. */
public final class BoundsOfPiecesTest {
    private static final Due DUE = new Due("BoundsOfPiecesTest");
    private static final Edges EDGES = new Edges(DUE);
    private static final int NONE = UnderTerms.NONE, UNKNOWN = UnderTerms.UNKNOWN, OUTSIDE = UnderTerms.OUTSIDE;
    private static final int[] FIRST = {1, 0, 1, 10};
    private static final int[] LEAST = {1, 0, 0, 0};
    private static final int[] MOST = {31, 1, 63, 999};
    private static final int[] TOLD = {10, 40, 20, 30};

    public static void main(String[] args) {
        promise8Pieces0To5();
        promise8What();
        promise8OfferedOrLaterOwnersAnew();
        promise8EveryNumberIsTaken();
        promise8EachPieceForItself();
        promise8UnknownAheadOfOutside();
        promise9LowerNumbersAlone();
        promise9Kinds();
        promise9None();
        promise9OneKindForTwoPieces();
        promise9UnknownAheadOfOutside();
        promise10Pieces0To5();
        promise10NotOrLater();
        promise10LaterOnesOfThese();
        promise10LaterOnesGoRound();
        promise10LaterOnesOfWhatIsNotOffered();
        promise11Pieces0To5();
        promise11EachMayBeTheWhole();
        promise12From0To99();
        promise12LeastAndDearest();
        DUE.end();
    }

    private static void promise8Pieces0To5() {
        for (int what = 0; what < 4; what++) {
            int w = what;
            EDGES.beyond("8: piece(_, " + w + ", 1)", 0, 5, (x, p) -> x.piece(p, w, 1), UNKNOWN);
            UnderTerms x = new UnderTerms();
            DUE.is("8: the first PIECE", x.piece(0, what, MOST[what]), FIRST[what]);
            DUE.is("8: the last PIECE", x.piece(5, what, MOST[what]), FIRST[what]);
        }
    }

    private static void promise8What() {
        for (int p : new int[] {0, 5}) {
            EDGES.beyond("8: piece(" + p + ", _, 1)", 0, 3, (x, what) -> x.piece(p, what, 1), OUTSIDE);
        }
        EDGES.refused("8: both are wrong", x -> x.piece(0, 4, -1), OUTSIDE);
    }

    private static void promise8OfferedOrLaterOwnersAnew() {
        for (int what = 0; what < 4; what++) {
            int w = what;
            for (int p : new int[] {0, 5}) {
                String call = "8: piece(" + p + ", " + w + ", _)";
                EDGES.beyond(call, LEAST[w], MOST[w], (x, v) -> x.piece(p, w, v), OUTSIDE);
                UnderTerms x = new UnderTerms();
                DUE.is(call + ", the greatest", x.piece(p, w, MOST[w]), FIRST[w]);
                DUE.is(call + ", it was the greatest", x.piece(p, w, LEAST[w]), MOST[w]);
                DUE.is(call + ", it was the least", x.piece(p, w, LEAST[w]), LEAST[w]);
                DUE.is(call + ", it is the least", x.told(TOLD[w] + p), LEAST[w]);
            }
        }
    }

    private static void promise8EveryNumberIsTaken() {
        for (int what = 0; what < 4; what++) {
            for (int v = LEAST[what]; v <= MOST[what]; v++) {
                UnderTerms x = new UnderTerms();
                DUE.is("8: piece(3, " + what + ", " + v + ")", x.piece(3, what, v), FIRST[what]);
                DUE.is("8: it is " + v, x.told(TOLD[what] + 3), v);
            }
        }
    }

    private static void promise8EachPieceForItself() {
        UnderTerms x = new UnderTerms();
        for (int p = 0; p < 6; p++) {
            for (int what = 0; what < 4; what++) {
                x.piece(p, what, MOST[what] - (what == 1 ? p % 2 : p));
            }
        }
        for (int p = 0; p < 6; p++) {
            for (int what = 0; what < 4; what++) {
                DUE.is("8: of " + p + " the " + what, x.told(TOLD[what] + p), MOST[what] - (what == 1 ? p % 2 : p));
            }
        }
    }

    private static void promise8UnknownAheadOfOutside() {
        EDGES.refused("8: UNKNOWN ahead of OUTSIDE, what", x -> x.piece(6, 4, 1), UNKNOWN);
        EDGES.refused("8: UNKNOWN ahead of OUTSIDE, what below", x -> x.piece(-1, -1, 1), UNKNOWN);
        for (int what = 0; what < 4; what++) {
            int w = what;
            EDGES.refused("8: UNKNOWN ahead of OUTSIDE, number", x -> x.piece(6, w, MOST[w] + 1), UNKNOWN);
            EDGES.refused("8: UNKNOWN ahead of OUTSIDE, number below", x -> x.piece(-1, w, LEAST[w] - 1), UNKNOWN);
        }
    }

    private static void promise9LowerNumbersAlone() {
        int[] numbers = {Integer.MIN_VALUE, Integer.MIN_VALUE + 1, -6, -1, 0, 1, 2, 3, 4, 5, 6, 7,
            Integer.MAX_VALUE - 1, Integer.MAX_VALUE};
        for (int p : numbers) {
            for (int other : numbers) {
                String call = "9: uses(" + p + ", " + other + ", 0)";
                if (p <= 5 && other >= 0 && other < p) {
                    UnderTerms x = new UnderTerms();
                    DUE.is(call, x.uses(p, other, 0), NONE);
                    DUE.is(call + " is told", x.told(100 + 8 * p + other), 0);
                } else {
                    EDGES.refused(call, x -> x.uses(p, other, 0), UNKNOWN);
                }
            }
        }
    }

    private static void promise9Kinds() {
        int[][] pairs = {{1, 0}, {5, 0}, {5, 4}};
        for (int[] pair : pairs) {
            String call = "9: uses(" + pair[0] + ", " + pair[1] + ", _)";
            EDGES.beyond(call, -1, 3, (x, kind) -> x.uses(pair[0], pair[1], kind), OUTSIDE);
            EDGES.refused(call + ", NONE is no KIND", x -> x.uses(pair[0], pair[1], NONE), OUTSIDE);
            UnderTerms x = new UnderTerms();
            int was = NONE;
            for (int kind = 0; kind <= 3; kind++) {
                DUE.is(call + ", " + kind, x.uses(pair[0], pair[1], kind), was);
                was = kind;
            }
            DUE.is(call + ", the same again", x.uses(pair[0], pair[1], 3), 3);
        }
    }

    private static void promise9None() {
        UnderTerms x = new UnderTerms();
        DUE.is("9: not, where it does not", x.uses(5, 4, -1), NONE);
        DUE.is("9: it did not", x.uses(5, 4, 0), NONE);
        DUE.is("9: KIND 0 is not none", x.uses(5, 4, -1), 0);
        DUE.is("9: it does not any more", x.told(144), NONE);
        DUE.is("9: PIECES", x.pieces(), 32);
        DUE.is("9: not, again", x.uses(5, 4, -1), NONE);
    }

    private static void promise9OneKindForTwoPieces() {
        UnderTerms x = new UnderTerms();
        for (int p = 0; p < 6; p++) {
            for (int other = 0; other < p; other++) {
                x.uses(p, other, (p * other) % 4);
                x.uses(p, other, (p + other) % 4);
            }
        }
        for (int p = 0; p < 6; p++) {
            for (int other = 0; other < p; other++) {
                DUE.is("9: " + p + " USES " + other, x.told(100 + 8 * p + other), (p + other) % 4);
            }
        }
        DUE.is("9: one way for two PIECES", x.audit(4, 1), 1);
    }

    private static void promise9UnknownAheadOfOutside() {
        EDGES.refused("9: no such PIECE, no KIND", x -> x.uses(6, 0, 4), UNKNOWN);
        EDGES.refused("9: no such other one, no KIND", x -> x.uses(5, -1, -2), UNKNOWN);
        EDGES.refused("9: itself, no KIND", x -> x.uses(3, 3, 4), UNKNOWN);
        EDGES.refused("9: a higher one, no KIND", x -> x.uses(3, 4, -2), UNKNOWN);
        EDGES.refused("9: itself, not", x -> x.uses(0, 0, -1), UNKNOWN);
    }

    private static void promise10Pieces0To5() {
        EDGES.beyond("10: choices(_)", 0, 5, UnderTerms::choices, UNKNOWN);
        for (int p : new int[] {0, 5}) {
            EDGES.changesNothing("10: choices(" + p + ")", UnderTerms::new, x -> x.choices(p), 1);
        }
        EDGES.changesNothing("10: choices(5), filled", Edges::filled, x -> x.choices(5), 1 + 8 + 16);
    }

    private static void promise10NotOrLater() {
        UnderTerms x = new UnderTerms();
        for (int t = 0; t < 5; t++) {
            x.later(t, (t + 1) % 5);
        }
        for (int bits = 1; bits < 32; bits++) {
            x.piece(2, 0, bits);
            DUE.is("10: OFFERED alone, " + bits, x.choices(2), bits);
        }
        x.piece(2, 0, 4);
        x.piece(2, 1, 1);
        DUE.is("10: OR LATER", x.choices(2), 31);
        x.piece(2, 1, 0);
        DUE.is("10: no more OR LATER", x.choices(2), 4);
        x.piece(3, 1, 1);
        DUE.is("10: OR LATER of another PIECE", x.choices(2), 4);
    }

    /** A chain of all five, in every order: from each of them all that come behind it. */
    private static void promise10LaterOnesOfThese() {
        chains(new int[5], 0);
        UnderTerms x = new UnderTerms();
        x.piece(0, 1, 1);
        DUE.is("10: none is LATER", x.choices(0), 1);
        x.later(0, 4);
        DUE.is("10: one is LATER", x.choices(0), 17);
        x.later(0, -1);
        DUE.is("10: none is LATER any more", x.choices(0), 1);
    }

    private static void chains(int[] chain, int length) {
        if (length == 5) {
            chain(chain);
            return;
        }
        for (int t = 0; t < 5; t++) {
            boolean used = false;
            for (int i = 0; i < length; i++) {
                used |= chain[i] == t;
            }
            if (!used) {
                chain[length] = t;
                chains(chain, length + 1);
            }
        }
    }

    private static void chain(int[] chain) {
        UnderTerms x = new UnderTerms();
        for (int i = 0; i < 4; i++) {
            x.later(chain[i], chain[i + 1]);
        }
        x.piece(4, 1, 1);
        int behind = 0;
        for (int i = 4; i >= 0; i--) {
            behind |= 1 << chain[i];
            x.piece(4, 0, 1 << chain[i]);
            DUE.is("10: from place " + i + " of " + chain[0] + chain[1] + chain[2] + chain[3] + chain[4],
                x.choices(4), behind);
        }
    }

    private static void promise10LaterOnesGoRound() {
        for (int length = 2; length <= 5; length++) {
            UnderTerms x = new UnderTerms();
            for (int t = 0; t < length; t++) {
                x.later(t, (t + 1) % length);
            }
            x.piece(1, 1, 1);
            for (int t = 0; t < 5; t++) {
                x.piece(1, 0, 1 << t);
                DUE.is("10: a ring of " + length + " from " + t, x.choices(1),
                    t < length ? (1 << length) - 1 : 1 << t);
            }
            if (length < 5) {
                x.later(4, 0);
                DUE.is("10: into a ring of " + length, x.choices(1), (1 << length) - 1 | 16);
            }
        }
    }

    private static void promise10LaterOnesOfWhatIsNotOffered() {
        UnderTerms x = new UnderTerms();
        x.later(1, 2);
        x.later(3, 4);
        x.piece(0, 1, 1);
        x.piece(0, 0, 1);
        DUE.is("10: none of others", x.choices(0), 1);
        x.piece(0, 0, 3);
        DUE.is("10: of one that is OFFERED", x.choices(0), 7);
        x.piece(0, 0, 10);
        DUE.is("10: of two that are OFFERED", x.choices(0), 30);
        x.piece(0, 0, 20);
        DUE.is("10: what comes ahead is not LATER", x.choices(0), 20);
        x.piece(0, 0, 31);
        DUE.is("10: all are OFFERED", x.choices(0), 31);
    }

    private static void promise11Pieces0To5() {
        EDGES.beyond("11: whole(_)", 0, 5, UnderTerms::whole, UNKNOWN);
        UnderTerms x = new UnderTerms();
        DUE.is("11: the first", x.whole(0), 5);
        DUE.is("11: refused", x.whole(6), UNKNOWN);
        DUE.is("11: the last", x.whole(5), 0);
        DUE.is("11: the same again", x.whole(5), 5);
    }

    private static void promise11EachMayBeTheWhole() {
        UnderTerms x = new UnderTerms();
        int was = 5;
        for (int p = 0; p < 6; p++) {
            DUE.is("11: whole(" + p + ")", x.whole(p), was);
            DUE.is("11: it is " + p, x.told(1), p);
            DUE.is("11: its PIECES", x.pieces(), 1 << p);
            was = p;
        }
    }

    private static void promise12From0To99() {
        EDGES.beyond("12: coin(_)", 0, 99, UnderTerms::coin, OUTSIDE);
        int was = 5;
        UnderTerms x = new UnderTerms();
        for (int v = 0; v <= 99; v++) {
            DUE.is("12: coin(" + v + ")", x.coin(v), was);
            DUE.is("12: it is " + v, x.told(2), v);
            was = v;
        }
        DUE.is("12: refused", x.coin(100), OUTSIDE);
        DUE.is("12: the least behind the greatest", x.coin(0), 99);
    }

    private static void promise12LeastAndDearest() {
        UnderTerms x = new UnderTerms();
        Calls.terms(x, 1, "0:1");
        x.piece(4, 0, 2);
        x.uses(5, 4, 0);
        DUE.is("12: at first", x.looser(1), 5);
        x.coin(0);
        DUE.is("12: the least", x.looser(1), 0);
        DUE.is("12: for nothing, but it is made looser", x.looser(0), 1);
        x.coin(99);
        DUE.is("12: the dearest", x.looser(1), 99);
    }
}
