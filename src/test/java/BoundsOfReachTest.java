/** Promises 13 to 16: each sentence that names a bound. */
public final class BoundsOfReachTest {
    private static final Due DUE = new Due("BoundsOfReachTest");
    private static final Edges EDGES = new Edges(DUE);
    private static final int NONE = UnderTerms.NONE, UNKNOWN = UnderTerms.UNKNOWN, OUTSIDE = UnderTerms.OUTSIDE;

    public static void main(String[] args) {
        promise13NothingAndAll();
        promise13AndSoOn();
        promise13WhatUsesTheWhole();
        promise14What();
        promise14BelowZero();
        promise14MoreThanSixDigits();
        promise14EachDigitAmongChoices();
        promise14ZeroWhereItShouldBe();
        promise14KindNoMoreThanReach();
        promise14EachKindOfAWay();
        promise14SomeWay();
        promise14LongestWay();
        promise14MustsByWay();
        promise14MayGo();
        promise15PieceAndWay();
        promise15NoneIsGood();
        promise15UsesNothing();
        promise15NotOfTheWhole();
        promise15FewestThenLeastThenFirst();
        promise15LeastAndMostMusts();
        promise15WhatAWayDoesNotAsk();
        promise16UsesNothing();
        promise16NoneOneAll();
        promise16ChosenOfPiecesThatDoNotReach();
        DUE.end();
    }

    private static UnderTerms everyUse(int kind) {
        UnderTerms x = new UnderTerms();
        for (int p = 0; p < 6; p++) {
            for (int other = 0; other < p; other++) {
                x.uses(p, other, kind);
            }
        }
        return x;
    }

    private static void promise13NothingAndAll() {
        EDGES.changesNothing("13: nothing", UnderTerms::new, UnderTerms::pieces, 32);
        EDGES.changesNothing("13: filled", Edges::filled, UnderTerms::pieces, 31);
        for (int kind = 0; kind <= 3; kind++) {
            UnderTerms x = everyUse(kind);
            for (int p = 0; p < 6; p++) {
                x.whole(p);
                DUE.is("13: all by KIND " + kind + " of " + p, x.pieces(), (1 << p + 1) - 1);
            }
        }
    }

    private static void promise13AndSoOn() {
        for (int broken = 1; broken <= 5; broken++) {
            UnderTerms x = new UnderTerms();
            for (int p = 1; p < 6; p++) {
                x.uses(p, p - 1, 3);
            }
            DUE.is("13: a chain of all", x.pieces(), 63);
            x.uses(broken, broken - 1, -1);
            DUE.is("13: a chain that ends at " + broken, x.pieces(), 64 - (1 << broken));
        }
    }

    private static void promise13WhatUsesTheWhole() {
        UnderTerms x = new UnderTerms();
        x.whole(2);
        x.uses(5, 2, 0);
        x.uses(3, 1, 0);
        DUE.is("13: what USES it is not of it", x.pieces(), 4);
        x.uses(2, 1, 0);
        DUE.is("13: what it USES is", x.pieces(), 6);
    }

    private static void promise14What() {
        EDGES.beyond("14: by(0, _)", 0, 4, (x, what) -> x.by(0, what), OUTSIDE);
        EDGES.refused("14: both are wrong", x -> x.by(-1, 5), OUTSIDE);
        int[] want = {0, 0, 0, 0, 1};
        for (int what = 0; what <= 4; what++) {
            int w = what;
            EDGES.changesNothing("14: by(0, " + w + ")", UnderTerms::new, x -> x.by(0, w), want[w]);
        }
    }

    private static void promise14BelowZero() {
        for (int chosen : new int[] {-1, -10, -44444, -1000000, Integer.MIN_VALUE, Integer.MIN_VALUE + 1}) {
            EDGES.refused("14: by(" + chosen + ", 0)", x -> x.by(chosen, 0), OUTSIDE);
        }
    }

    private static UnderTerms allChooseFromAll() {
        UnderTerms x = everyUse(0);
        for (int p = 0; p < 6; p++) {
            x.piece(p, 0, 31);
        }
        return x;
    }

    private static void promise14MoreThanSixDigits() {
        UnderTerms x = allChooseFromAll();
        DUE.is("14: the least CHOSEN", x.by(0, 0), 31);
        DUE.is("14: the greatest CHOSEN", x.by(44444, 0), 31);
        DUE.is("14: one more", x.by(44445, 0), OUTSIDE);
        DUE.is("14: six digits", x.by(144444, 0), OUTSIDE);
        DUE.is("14: six digits, 0 behind", x.by(100000, 0), OUTSIDE);
        DUE.is("14: the greatest of six digits", x.by(999999, 0), OUTSIDE);
        for (int chosen : new int[] {1000000, 1044444, 10000000, 100044444, 2000000000, Integer.MAX_VALUE}) {
            DUE.is("14: by(" + chosen + ", 0)", x.by(chosen, 0), OUTSIDE);
            EDGES.refused("14: by(" + chosen + ", 4)", y -> y.by(chosen, 4), OUTSIDE);
        }
    }

    private static void promise14EachDigitAmongChoices() {
        int ten = 1;
        for (int p = 0; p < 5; p++) {
            for (int t = 0; t < 5; t++) {
                UnderTerms x = new UnderTerms();
                x.uses(5, p, 0);
                x.piece(p, 0, 1 << t);
                UnderTerms but = new UnderTerms();
                but.uses(5, p, 0);
                but.piece(p, 0, 31 & ~(1 << t));
                for (int digit = 0; digit < 10; digit++) {
                    String call = "14: " + digit + " of PIECE " + p;
                    DUE.is(call + ", " + t + " alone", x.by(digit * ten, 0), digit == t ? 1 << p : OUTSIDE);
                    DUE.is(call + ", all but " + t, but.by(digit * ten, 0), digit == t || digit > 4 ? OUTSIDE : 1 << p);
                }
            }
            ten *= 10;
        }
        UnderTerms x = new UnderTerms();
        x.uses(5, 0, 0);
        x.later(0, 4);
        DUE.is("14: LATER ones, not OR LATER", x.by(4, 0), OUTSIDE);
        x.piece(0, 1, 1);
        DUE.is("14: LATER ones, OR LATER", x.by(4, 0), 1);
    }

    private static void promise14ZeroWhereItShouldBe() {
        for (int whole = 0; whole < 6; whole++) {
            UnderTerms x = new UnderTerms();
            x.whole(whole);
            for (int p = 0; p < 6; p++) {
                x.piece(p, 0, 30);
            }
            DUE.is("14: 0 for all, though none has it", x.by(0, 4), 30);
            int ten = 1;
            for (int p = 0; p < 6; p++) {
                for (int digit = 1; digit < 10; digit++) {
                    DUE.is("14: " + digit + " of PIECE " + p + " by WHOLE " + whole, x.by(digit * ten, 4), OUTSIDE);
                }
                ten *= 10;
            }
        }
    }

    private static void promise14KindNoMoreThanReach() {
        for (int kind = 0; kind <= 3; kind++) {
            for (int reach = 0; reach <= 3; reach++) {
                UnderTerms x = new UnderTerms();
                x.uses(5, 0, kind);
                Calls.terms(x, 0, "n" + reach + ":1");
                boolean reaches = kind <= reach;
                String of = "14: KIND " + kind + ", REACH " + reach;
                DUE.is(of, x.by(0, 0), reaches ? 1 : 0);
                DUE.is(of + ", MUSTS", x.by(0, 1), reaches ? 1 : 0);
                DUE.is(of + ", MAY GO", x.by(0, 4), reaches ? 0 : 1);
            }
        }
    }

    private static void promise14EachKindOfAWay() {
        for (int n = 0; n < 64; n++) {
            int first = n / 16;
            int second = n / 4 % 4;
            int reach = n % 4;
            UnderTerms x = new UnderTerms();
            x.uses(5, 4, first);
            x.uses(4, 0, second);
            Calls.terms(x, 1, "" + reach);
            x.piece(0, 0, 2);
            int want = 16 + (first <= reach && second <= reach ? 1 : 0);
            DUE.is("14: KINDS " + first + ", " + second + ", REACH " + reach, x.by(1, 0), want);
        }
    }

    private static void promise14SomeWay() {
        for (int near = 0; near <= 3; near++) {
            for (int far = 0; far <= 3; far++) {
                for (int reach = 0; reach <= 3; reach++) {
                    UnderTerms x = new UnderTerms();
                    x.uses(5, 0, near);
                    x.uses(5, 4, 0);
                    x.uses(4, 0, far);
                    Calls.terms(x, 0, "" + reach);
                    int want = 16 + (Math.min(near, far) <= reach ? 1 : 0);
                    DUE.is("14: ways of " + near + " and " + far + ", REACH " + reach, x.by(0, 0), want);
                }
            }
        }
    }

    private static void promise14LongestWay() {
        for (int reach = 0; reach <= 3; reach++) {
            for (int wider = 1; wider <= 5; wider++) {
                UnderTerms x = new UnderTerms();
                for (int p = 1; p < 6; p++) {
                    x.uses(p, p - 1, reach);
                }
                Calls.terms(x, 0, "" + reach);
                DUE.is("14: all by KIND " + reach, x.by(0, 0), 31);
                if (reach < 3) {
                    x.uses(wider, wider - 1, reach + 1);
                    DUE.is("14: one by a KIND more, at " + wider, x.by(0, 0), 32 - (1 << wider));
                }
            }
        }
    }

    private static void promise14MustsByWay() {
        int[] served = {0, 2, 4, 0, 16};
        for (int ask = 0; ask < 5; ask++) {
            UnderTerms x = new UnderTerms();
            x.uses(5, 4, 3);
            Calls.terms(x, 0, "nspac".charAt(ask) + "3");
            DUE.is("14: handed out, ask " + ask, x.by(0, 1), 1 << ask);
            DUE.is("14: served from afar, ask " + ask, x.by(0, 2), served[ask]);
            DUE.is("14: kept at home, ask " + ask, x.by(0, 3), ask == 2 ? 4 : 0);
        }
        UnderTerms x = new UnderTerms();
        x.uses(5, 4, 3);
        DUE.is("14: no ASKS", x.by(0, 1) + x.by(0, 2) + x.by(0, 3), 0);
        Calls.terms(x, 0, "nspac3");
        DUE.is("14: all ASKS, handed out", x.by(0, 1), 31);
        DUE.is("14: all ASKS, served from afar", x.by(0, 2), 22);
        DUE.is("14: all ASKS, kept at home", x.by(0, 3), 4);
        UnderTerms one = everyUse(0);
        for (int p = 0; p < 5; p++) {
            one.piece(p, 0, 1 << p);
            Calls.terms(one, p, "nspac".charAt(p) + "0");
        }
        DUE.is("14: one ASK of each PIECE", one.by(43210, 1), 31);
    }

    private static void promise14MayGo() {
        for (int whole = 1; whole < 32; whole++) {
            for (int go : new int[] {1, 2, 4, 8, 16, 21, 30, 31}) {
                UnderTerms x = new UnderTerms();
                x.piece(5, 0, whole);
                x.uses(5, 4, 1);
                StringBuilder text = new StringBuilder("1:");
                for (int t = 0; t < 5; t++) {
                    text.append((go & 1 << t) != 0 ? "" + t : "");
                }
                Calls.terms(x, 0, text.toString());
                DUE.is("14: MAY GO, WHOLE " + whole + ", GO " + go, x.by(0, 4), whole & go);
                x.uses(5, 4, 2);
                DUE.is("14: MAY GO, it does not REACH", x.by(0, 4), whole);
            }
        }
        UnderTerms x = new UnderTerms();
        for (int t = 0; t < 4; t++) {
            x.later(t, t + 1);
        }
        DUE.is("14: no PIECES", x.by(0, 4), 1);
        x.piece(5, 1, 1);
        DUE.is("14: no PIECES, LATER ones, too", x.by(0, 4), 31);
    }

    /** THE WHOLE may go by terms 4 alone, which its one PIECE lets it under terms 0, not under 1. */
    private static UnderTerms oneGood() {
        UnderTerms x = new UnderTerms();
        x.piece(5, 0, 16);
        x.piece(4, 0, 3);
        x.uses(5, 4, 0);
        Calls.terms(x, 0, "ns0:4");
        Calls.terms(x, 1, "0:0123");
        return x;
    }

    private static UnderTerms noneGood() {
        UnderTerms x = oneGood();
        x.piece(4, 0, 2);
        return x;
    }

    private static void promise15PieceAndWay() {
        for (int way = 0; way <= 2; way++) {
            int w = way;
            EDGES.beyond("15: best(" + w + ", _)", -2, 5, (x, piece) -> x.best(w, piece), UNKNOWN);
        }
        for (int piece = -2; piece <= 5; piece++) {
            int p = piece;
            EDGES.beyond("15: best(_, " + p + ")", 0, 2, (x, way) -> x.best(way, p), OUTSIDE);
        }
        EDGES.refused("15: UNKNOWN ahead of OUTSIDE", x -> x.best(3, 6), UNKNOWN);
        EDGES.refused("15: UNKNOWN ahead of OUTSIDE, below", x -> x.best(-1, -3), UNKNOWN);
        EDGES.changesNothing("15: MUSTS", BoundsOfReachTest::oneGood, x -> x.best(0, -1), 3);
        EDGES.changesNothing("15: MUSTS, the last WAY", BoundsOfReachTest::oneGood, x -> x.best(2, -1), 0);
        EDGES.changesNothing("15: MAY GO", BoundsOfReachTest::oneGood, x -> x.best(0, -2), 16);
        EDGES.changesNothing("15: TERMS", BoundsOfReachTest::oneGood, x -> x.best(0, 4), 0);
    }

    private static void promise15NoneIsGood() {
        for (int way = 0; way <= 2; way++) {
            for (int piece = -2; piece <= 5; piece++) {
                int w = way;
                int p = piece;
                EDGES.changesNothing("15: none is GOOD, best(" + w + ", " + p + ")", BoundsOfReachTest::noneGood,
                    x -> x.best(w, p), NONE);
            }
        }
        EDGES.refusedOn("15: UNKNOWN, none is GOOD", BoundsOfReachTest::noneGood, x -> x.best(0, -3), UNKNOWN);
        EDGES.refusedOn("15: UNKNOWN, none is GOOD", BoundsOfReachTest::noneGood, x -> x.best(0, 6), UNKNOWN);
        EDGES.refusedOn("15: OUTSIDE, none is GOOD", BoundsOfReachTest::noneGood, x -> x.best(3, -1), OUTSIDE);
        EDGES.refusedOn("15: OUTSIDE, none is GOOD", BoundsOfReachTest::noneGood, x -> x.best(-1, 4), OUTSIDE);
    }

    private static void promise15UsesNothing() {
        UnderTerms x = new UnderTerms();
        Calls.terms(x, 0, "nspac3:4");
        for (int whole = 0; whole < 6; whole++) {
            x.whole(whole);
            for (int way = 0; way <= 2; way++) {
                DUE.is("15: no PIECES, MUSTS", x.best(way, -1), 0);
                DUE.is("15: no PIECES, MAY GO", x.best(way, -2), 1);
                for (int p = 0; p < 6; p++) {
                    DUE.is("15: no PIECES, TERMS of " + p, x.best(way, p), NONE);
                }
            }
        }
    }

    private static void promise15NotOfTheWhole() {
        UnderTerms x = oneGood();
        x.uses(3, 2, 0);
        int[] want = {NONE, NONE, NONE, NONE, 0, NONE};
        for (int p = 0; p < 6; p++) {
            DUE.is("15: TERMS of " + p, x.best(0, p), want[p]);
        }
    }

    /** 5 USES 0 and 1, of each of which TERMS are to be chosen. */
    private static UnderTerms twoChoose(int offered, String... texts) {
        UnderTerms x = new UnderTerms();
        x.piece(5, 0, 31);
        for (int t = 0; t < texts.length; t++) {
            Calls.terms(x, t, texts[t]);
        }
        for (int p = 0; p < 2; p++) {
            x.piece(p, 0, offered);
            x.uses(5, p, 0);
        }
        return x;
    }

    private static void bestIs(String when, UnderTerms x, int way, int musts, int first, int second) {
        DUE.is("15: " + when + ", MUSTS", x.best(way, -1), musts);
        DUE.is("15: " + when + ", TERMS of 0", x.best(way, 0), first);
        DUE.is("15: " + when + ", TERMS of 1", x.best(way, 1), second);
    }

    private static void promise15FewestThenLeastThenFirst() {
        bestIs("the fewest, not the least", twoChoose(3, "ns0", "c0"), 0, 16, 1, 1);
        bestIs("four, not the five", twoChoose(3, "nspac0", "spac0"), 0, 30, 1, 1);
        bestIs("the least of as many", twoChoose(3, "sp0", "na0"), 0, 6, 0, 0);
        bestIs("the least of as many, behind", twoChoose(3, "na0", "sp0"), 0, 6, 1, 1);
        bestIs("the least one", twoChoose(31, "c0", "a0", "p0", "s0", "n0"), 0, 1, 4, 4);
        bestIs("one for both is fewer than two", twoChoose(3, "n0:0", "s0:1"), 0, 1, 0, 0);
        bestIs("all alike: the first", twoChoose(31, "n0", "n0", "n0", "n0", "n0"), 0, 1, 0, 0);
        bestIs("all alike: the first that is OFFERED", twoChoose(24, "n0", "n0", "n0", "n0", "n0"), 0, 1, 3, 3);
        UnderTerms x = twoChoose(31, "0:0", "0:1", "0:2", "0:3", "0:4");
        x.piece(5, 0, 16);
        bestIs("the last alone is GOOD", x, 0, 0, 4, 4);
        UnderTerms y = twoChoose(3, "0:0", "0:1", "0:1");
        y.piece(1, 0, 6);
        bestIs("the first of PIECE 1 behind that of PIECE 0", y, 0, 0, 1, 1);
        UnderTerms z = twoChoose(3, "0:0", "0:1", "0:0");
        z.piece(1, 0, 6);
        bestIs("the first of PIECE 0 ahead of that of PIECE 1", z, 0, 0, 0, 2);
    }

    private static void promise15LeastAndMostMusts() {
        bestIs("none", twoChoose(1, "0"), 0, 0, 0, 0);
        bestIs("all", twoChoose(1, "nspac0"), 0, 31, 0, 0);
        bestIs("all, served from afar", twoChoose(1, "nspac0"), 1, 22, 0, 0);
        bestIs("all, kept at home", twoChoose(1, "nspac0"), 2, 4, 0, 0);
        DUE.is("15: MAY GO under all", twoChoose(1, "nspac0").best(0, -2), 31);
        DUE.is("15: MAY GO under one", twoChoose(1, "nspac0:4").best(0, -2), 16);
    }

    private static void promise15WhatAWayDoesNotAsk() {
        bestIs("handed out", twoChoose(3, "na0", "s0"), 0, 2, 1, 1);
        bestIs("served from afar", twoChoose(3, "na0", "s0"), 1, 0, 0, 0);
        bestIs("served from afar, the least", twoChoose(7, "nap0", "c0", "s0"), 1, 2, 2, 2);
        bestIs("kept at home: all alike", twoChoose(7, "nsac0", "0", "p0"), 2, 0, 0, 0);
        bestIs("kept at home: but p", twoChoose(3, "p0", "nsac0"), 2, 0, 1, 1);
    }

    private static void promise16UsesNothing() {
        UnderTerms x = new UnderTerms();
        for (int t = 0; t < 5; t++) {
            Calls.terms(x, t, "3:" + t);
        }
        for (int p = 0; p < 6; p++) {
            x.whole(p);
            x.piece(p, 0, 31);
            DUE.is("16: the one of no PIECES, WHOLE " + p, x.good(), 1);
        }
        EDGES.changesNothing("16: a new object", UnderTerms::new, UnderTerms::good, 1);
    }

    private static void promise16NoneOneAll() {
        EDGES.changesNothing("16: none", BoundsOfReachTest::noneGood, UnderTerms::good, 0);
        EDGES.changesNothing("16: one", BoundsOfReachTest::oneGood, UnderTerms::good, 1);
        UnderTerms x = allChooseFromAll();
        DUE.is("16: all", x.good(), 3125);
        for (int t = 0; t < 5; t++) {
            Calls.terms(x, t, "0:" + t);
        }
        DUE.is("16: one for each TERMS", x.good(), 5);
        x.piece(5, 0, 16);
        DUE.is("16: one of 3125", x.good(), 1);
        x.piece(0, 0, 15);
        DUE.is("16: none of 2500", x.good(), 0);
    }

    private static void promise16ChosenOfPiecesThatDoNotReach() {
        UnderTerms x = allChooseFromAll();
        for (int t = 0; t < 5; t++) {
            Calls.terms(x, t, "0:" + t);
        }
        for (int p = 0; p < 5; p++) {
            x.uses(5, p, 1);
        }
        DUE.is("16: none REACHES: all", x.good(), 3125);
        x.uses(5, 0, 0);
        x.piece(5, 0, 1);
        DUE.is("16: one REACHES: a fifth", x.good(), 625);
        x.uses(5, 0, -1);
        x.whole(1);
        x.piece(1, 0, 3);
        DUE.is("16: a smaller WHOLE", x.good(), 2);
    }
}
