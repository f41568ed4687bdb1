/** Promises 21 to 26. */
public final class MoreNamesImagesTest {
    private static final Due DUE = new Due("MoreNamesImagesTest");
    private static final int NONE = UnderTerms.NONE, UNKNOWN = UnderTerms.UNKNOWN, OUTSIDE = UnderTerms.OUTSIDE,
        STATE = UnderTerms.STATE;

    public static void main(String[] args) {
        more();
        moreOfTheBest();
        moreRefused();
        names();
        namesByBest();
        audit();
        image();
        twoImages();
        told();
        DUE.end();
    }

    private static void more() {
        UnderTerms x = new UnderTerms();
        Calls.terms(x, 1, "nspac1");
        Calls.terms(x, 2, "p0");
        x.piece(4, 0, 4);
        x.piece(3, 0, 2);
        x.uses(5, 4, 0);
        x.uses(3, 2, 0);
        x.piece(2, 0, 2);
        DUE.is("21: but what must be done", x.more(3, 0, 0), 27);
        DUE.is("21: served from afar", x.more(3, 0, 1), 18);
        DUE.is("21: kept at home", x.more(3, 0, 2), 0);
        DUE.is("21: bound", x.more(3, 1, 0), 27);
        DUE.is("21: called from afar", x.more(3, 2, 0), 0);
        DUE.is("21: nothing has changed", x.pieces(), 48);
        DUE.is("21: nothing has changed, told", x.told(143), NONE);
        x.piece(3, 0, 1);
        DUE.is("21: what it USES REACHES, too", x.more(3, 0, 0), 27);
        DUE.is("21: what it USES does not REACH through it", x.more(3, 2, 0), 0);
        x.uses(4, 3, 3);
        DUE.is("21: USED already, but not by THE WHOLE", x.more(3, 0, 0), 27);
    }

    /** One PIECE more may bar what was BEST: then other TERMS are chosen for the others. */
    private static void moreOfTheBest() {
        UnderTerms x = new UnderTerms();
        x.piece(5, 0, 3);
        Calls.terms(x, 0, "s0:0");
        Calls.terms(x, 1, "np0:1");
        Calls.terms(x, 2, "0:1");
        x.piece(4, 0, 3);
        x.piece(3, 0, 4);
        x.uses(5, 4, 0);
        DUE.is("21: BEST as it is", x.best(0, -1), 2);
        DUE.is("21: BEST is another one then", x.more(3, 0, 0), 5);
        x.piece(5, 0, 1);
        DUE.is("21: then none is GOOD", x.more(3, 0, 0), NONE);
        DUE.is("21: then some is GOOD", x.more(3, 1, 0), 0);
        x.piece(5, 0, 4);
        DUE.is("21: none is GOOD as it is", x.more(3, 1, 0), NONE);
    }

    private static void moreRefused() {
        UnderTerms x = new UnderTerms();
        x.whole(3);
        x.uses(3, 1, 3);
        DUE.is("21: more(3, 0, 0)", x.more(3, 0, 0), UNKNOWN);
        DUE.is("21: more(4, 9, 9)", x.more(4, 9, 9), UNKNOWN);
        DUE.is("21: more(6, 0, 0)", x.more(6, 0, 0), UNKNOWN);
        DUE.is("21: more(-1, 0, 0)", x.more(-1, 0, 0), UNKNOWN);
        DUE.is("21: more(1, 4, 0)", x.more(1, 4, 0), OUTSIDE);
        DUE.is("21: more(1, -1, 0)", x.more(1, -1, 0), OUTSIDE);
        DUE.is("21: more(1, 0, 3)", x.more(1, 0, 3), OUTSIDE);
        DUE.is("21: more(1, 0, -1)", x.more(1, 0, -1), OUTSIDE);
        DUE.is("21: more(1, 0, 0)", x.more(1, 0, 0), STATE);
        DUE.is("21: more(2, 0, 0)", x.more(2, 0, 0), 0);
        Calls.terms(x, 1, "3:1");
        x.piece(1, 0, 2);
        DUE.is("21: STATE ahead of NONE", x.more(1, 0, 0), STATE);
        DUE.is("21: NONE", x.more(2, 0, 0), NONE);
        x.whole(0);
        DUE.is("21: nothing is below PIECE 0", x.more(0, 0, 0), UNKNOWN);
    }

    private static void namesAre(UnderTerms x, String when, int... owners) {
        DUE.is("22: " + when + ", how many", x.names(-1), owners.length);
        for (int i = 0; i < owners.length; i++) {
            DUE.is("22: " + when + ", " + i, x.names(i), owners[i]);
        }
        DUE.is("22: " + when + ", behind the last", x.names(owners.length), NONE);
        DUE.is("22: " + when + ", -2", x.names(-2), NONE);
        DUE.is("22: " + when + ", the greatest", x.names(Integer.MAX_VALUE), NONE);
        DUE.is("22: " + when + ", the least", x.names(Integer.MIN_VALUE), NONE);
    }

    private static void names() {
        UnderTerms x = new UnderTerms();
        namesAre(x, "nobody");
        Calls.terms(x, 0, "n0");
        namesAre(x, "THE WHOLE itself asks nothing of itself");
        x.uses(5, 4, 0);
        x.uses(5, 3, 0);
        x.uses(5, 2, 0);
        x.uses(5, 1, 1);
        x.piece(4, 2, 0b100110);
        x.piece(3, 2, 0b100010);
        x.piece(2, 2, 0b100001);
        x.piece(1, 2, 0b001111);
        x.piece(5, 2, 0b010000);
        namesAre(x, "most first, then by number", 5, 1, 0, 2);
        x.uses(5, 1, 0);
        namesAre(x, "one PIECE more", 1, 5, 0, 2, 3);
        Calls.terms(x, 0, "spac0");
        namesAre(x, "other ASKS");
        Calls.terms(x, 0, "n0:1");
        namesAreNone(x);
    }

    private static void namesAreNone(UnderTerms x) {
        for (int i = -2; i < 3; i++) {
            DUE.is("22: no CHOSEN is GOOD, " + i, x.names(i), NONE);
        }
    }

    private static void namesByBest() {
        UnderTerms x = new UnderTerms();
        Calls.terms(x, 0, "ns0");
        Calls.terms(x, 1, "c0");
        x.piece(4, 0, 3);
        x.piece(4, 2, 4);
        x.uses(5, 4, 0);
        namesAre(x, "BEST asks none");
        Calls.terms(x, 0, "n0");
        namesAre(x, "BEST by WAY 0 asks it", 2);
        Calls.terms(x, 1, "a0");
        namesAre(x, "n is less than a", 2);
    }

    private static void auditIs(UnderTerms x, int piece, int longest, int ways) {
        DUE.is("23: audit(" + piece + ", 0)", x.audit(piece, 0), longest);
        DUE.is("23: audit(" + piece + ", 1)", x.audit(piece, 1), ways);
    }

    private static void audit() {
        UnderTerms x = new UnderTerms();
        auditIs(x, 5, 0, 1);
        auditIs(x, 4, NONE, NONE);
        for (int p = 0; p < 6; p++) {
            for (int other = 0; other < p; other++) {
                x.uses(p, other, (p + other) % 4);
            }
        }
        int[] ways = {16, 8, 4, 2, 1, 1};
        for (int p = 0; p < 6; p++) {
            auditIs(x, p, 5 - p, ways[p]);
        }
        x.whole(3);
        auditIs(x, 0, 3, 4);
        auditIs(x, 3, 0, 1);
        auditIs(x, 4, NONE, NONE);
        x.uses(2, 1, -1);
        auditIs(x, 0, 2, 3);
        DUE.is("23: audit(6, 2)", x.audit(6, 2), UNKNOWN);
        DUE.is("23: audit(-1, 0)", x.audit(-1, 0), UNKNOWN);
        DUE.is("23: audit(4, 2)", x.audit(4, 2), OUTSIDE);
        DUE.is("23: audit(0, -1)", x.audit(0, -1), OUTSIDE);
    }

    private static void changeAll(UnderTerms x) {
        for (int t = 0; t < 5; t++) {
            Calls.terms(x, t, "sc2:" + t);
            x.later(t, (t + 1) % 5);
        }
        for (int p = 0; p < 6; p++) {
            x.piece(p, 0, 30 - p);
            x.piece(p, 1, 1);
            x.piece(p, 2, 40 + p);
            x.piece(p, 3, 500 + p);
            for (int other = 0; other < p; other++) {
                x.uses(p, other, (p + other) % 4);
            }
        }
        x.whole(3);
        x.coin(77);
    }

    private static void image() {
        UnderTerms x = new UnderTerms();
        DUE.is("24: image(-1)", x.image(-1), OUTSIDE);
        DUE.is("24: image(2)", x.image(2), OUTSIDE);
        DUE.is("25: restore(-1)", x.restore(-1), OUTSIDE);
        DUE.is("25: restore(2)", x.restore(2), OUTSIDE);
        DUE.is("25: restore(1), not kept", x.restore(1), STATE);
        String first = Calls.state(x);
        DUE.is("24: image(1)", x.image(1), 1);
        DUE.is("25: restore(0), the other is kept", x.restore(0), STATE);
        changeAll(x);
        DUE.is("24: what is kept stays", x.told(2), 77);
        DUE.is("25: restore(1)", x.restore(1), 1);
        DUE.same("25: all is as it was", Calls.state(x), first);
        Calls.say(x, "n0");
        DUE.is("25: restore again", x.restore(1), 1);
        DUE.is("25: signs are left alone", x.told(0), 2);
        DUE.is("25: signs say what they did", x.terms(0), 1);
    }

    private static void twoImages() {
        UnderTerms x = new UnderTerms();
        x.image(0);
        changeAll(x);
        String changed = Calls.state(x);
        x.image(1);
        x.restore(0);
        DUE.is("25: the first", x.told(2), 5);
        x.coin(1);
        x.restore(0);
        DUE.is("25: what is restored can be changed, the IMAGE is not", x.told(2), 5);
        x.restore(1);
        DUE.same("25: the second", Calls.state(x), changed);
        x.image(0);
        x.coin(2);
        x.restore(0);
        DUE.same("24: kept anew", Calls.state(x), changed);
    }

    private static void told() {
        UnderTerms x = new UnderTerms();
        changeAll(x);
        Calls.say(x, "abc");
        DUE.is("26: signs", x.told(0), 3);
        DUE.is("26: THE WHOLE", x.told(1), 3);
        DUE.is("26: LOOSER coin", x.told(2), 77);
        for (int p = 0; p < 6; p++) {
            DUE.is("26: OFFERED of " + p, x.told(10 + p), 30 - p);
            DUE.is("26: OWNERS of " + p, x.told(20 + p), 40 + p);
            DUE.is("26: ANEW of " + p, x.told(30 + p), 500 + p);
            DUE.is("26: OR LATER of " + p, x.told(40 + p), 1);
            for (int other = 0; other < 8; other++) {
                int want = other > 5 ? OUTSIDE : other < p ? (p + other) % 4 : NONE;
                DUE.is("26: " + p + " USES " + other, x.told(100 + 8 * p + other), want);
            }
        }
        int[] outside = {-1, 3, 9, 16, 19, 26, 29, 36, 39, 46, 49, 50, 55, 99, 148, 149, 1000,
            Integer.MIN_VALUE, Integer.MAX_VALUE};
        for (int what : outside) {
            DUE.is("26: told(" + what + ")", x.told(what), OUTSIDE);
        }
    }
}
