/** Promises 1 to 12. */
public final class TermsAndPiecesTest {
    private static final Due DUE = new Due("TermsAndPiecesTest");
    private static final int NONE = UnderTerms.NONE, UNKNOWN = UnderTerms.UNKNOWN, OUTSIDE = UnderTerms.OUTSIDE;

    public static void main(String[] args) {
        newObject();
        say();
        wipe();
        faultOfLetters();
        faultOfReach();
        faultOfGo();
        faultOfEverySign();
        terms();
        about();
        later();
        piece();
        uses();
        choices();
        whole();
        coin();
        DUE.end();
    }

    private static void newObject() {
        UnderTerms x = new UnderTerms();
        for (int t = 0; t < 5; t++) {
            DUE.is("1: about(" + t + ", 0)", x.about(t, 0), 0);
            DUE.is("1: about(" + t + ", 1)", x.about(t, 1), 3);
            DUE.is("1: about(" + t + ", 2)", x.about(t, 2), 31);
            DUE.is("1: about(" + t + ", 3)", x.about(t, 3), NONE);
        }
        for (int p = 0; p < 6; p++) {
            DUE.is("1: OFFERED of " + p, x.told(10 + p), 1);
            DUE.is("1: OWNERS of " + p, x.told(20 + p), 1);
            DUE.is("1: ANEW of " + p, x.told(30 + p), 10);
            DUE.is("1: OR LATER of " + p, x.told(40 + p), 0);
            for (int other = 0; other < p; other++) {
                DUE.is("1: " + p + " USES " + other, x.told(100 + 8 * p + other), NONE);
            }
        }
        DUE.is("1: signs", x.told(0), 0);
        DUE.is("1: THE WHOLE", x.told(1), 5);
        DUE.is("1: LOOSER coin", x.told(2), 5);
        DUE.is("1: pieces", x.pieces(), 32);
        DUE.is("1: restore(0)", x.restore(0), UnderTerms.STATE);
        DUE.is("1: restore(1)", x.restore(1), UnderTerms.STATE);
    }

    private static void say() {
        UnderTerms x = new UnderTerms();
        DUE.is("2: say(32)", x.say(32), OUTSIDE);
        DUE.is("2: say(127)", x.say(127), OUTSIDE);
        DUE.is("2: say(least)", x.say(Integer.MIN_VALUE), OUTSIDE);
        DUE.is("2: say(33)", x.say(33), 1);
        DUE.is("2: say(126)", x.say(126), 2);
        for (int n = 3; n <= 20; n++) {
            DUE.is("2: sign " + n, x.say('n'), n);
        }
        DUE.is("2: sign 21", x.say('n'), UnderTerms.FULL);
        DUE.is("2: sign 21, not a sign", x.say(127), OUTSIDE);
        DUE.is("2: signs", x.told(0), 20);
    }

    private static void wipe() {
        UnderTerms x = new UnderTerms();
        DUE.is("3: wipe of none", x.wipe(), 0);
        Calls.say(x, "ns1");
        DUE.is("3: wipe", x.wipe(), 3);
        DUE.is("3: signs", x.told(0), 0);
        DUE.is("3: wipe again", x.wipe(), 0);
        Calls.say(x, "01234567890123456789");
        DUE.is("3: wipe of a full PAD", x.wipe(), 20);
        DUE.is("3: a sign behind it", x.say('0'), 1);
        DUE.is("3: fault behind it", x.fault(), NONE);
    }

    private static void faultIs(String signs, int want) {
        DUE.is("4: fault of \"" + signs + "\"", Calls.fault(new UnderTerms(), signs), want);
    }

    private static void faultOfLetters() {
        faultIs("", 0);
        faultIs("nspac", 5);
        faultIs("capsn3", NONE);
        faultIs("nn0", 1);
        faultIs("nspacn0", 5);
        faultIs("nspan0", 4);
        faultIs("N0", 0);
        faultIs("nx0", 1);
        faultIs("0n", 1);
        faultIs(":0", 0);
        faultIs("n:0", 1);
    }

    private static void faultOfReach() {
        faultIs("0", NONE);
        faultIs("3", NONE);
        faultIs("4", 0);
        faultIs("/", 0);
        faultIs("n9", 1);
        faultIs("33", 1);
        faultIs("s1;2", 2);
    }

    private static void faultOfGo() {
        faultIs("0:", 2);
        faultIs("0:4", NONE);
        faultIs("0:5", 2);
        faultIs("0:/", 2);
        faultIs("0:01234", NONE);
        faultIs("0:00", 3);
        faultIs("0:20", 3);
        faultIs("0:024:", 5);
        faultIs("0:44", 3);
        faultIs("nspac0:012345", 12);
        faultIs("0:n", 2);
        faultIs("nspac3:01234~~~~~~~~", 12);
    }

    private static void faultOfEverySign() {
        UnderTerms x = new UnderTerms();
        for (int sign = 33; sign <= 126; sign++) {
            x.wipe();
            x.say(sign);
            int want = "nspac".indexOf(sign) >= 0 ? 1 : "0123".indexOf(sign) >= 0 ? NONE : 0;
            DUE.is("4: fault of sign " + sign, x.fault(), want);
        }
    }

    private static void terms() {
        UnderTerms x = new UnderTerms();
        DUE.is("5: terms of an empty PAD", x.terms(0), UnderTerms.NO);
        Calls.say(x, "ps1");
        DUE.is("5: terms(-1)", x.terms(-1), UNKNOWN);
        DUE.is("5: terms(5)", x.terms(5), UNKNOWN);
        DUE.is("5: signs are left", x.told(0), 3);
        DUE.is("5: terms(4)", x.terms(4), 6);
        DUE.is("5: signs are gone", x.told(0), 0);
        Calls.say(x, "n0:");
        DUE.is("5: terms with a FAULT", x.terms(4), UnderTerms.NO);
        DUE.is("5: UNKNOWN ahead of NO", x.terms(5), UNKNOWN);
        DUE.is("5: signs are left by NO", x.told(0), 3);
        DUE.is("5: the old ASKS", x.about(4, 0), 6);
        DUE.is("5: the old GO", x.about(4, 2), 31);
        x.say('3');
        DUE.is("5: terms with more signs", x.terms(4), 1);
        DUE.is("5: the new GO", x.about(4, 2), 8);
        String letters = "nspac";
        for (int a = 0; a < 5; a++) {
            DUE.is("5: terms " + letters.charAt(a), Calls.terms(x, 1, letters.charAt(a) + "2"), 1 << a);
        }
        x.later(1, 2);
        Calls.terms(x, 1, "0");
        DUE.is("5: LATER stays", x.about(1, 3), 2);
    }

    private static void about() {
        UnderTerms x = new UnderTerms();
        Calls.terms(x, 2, "ac1:034");
        x.later(2, 4);
        DUE.is("6: ASKS", x.about(2, 0), 24);
        DUE.is("6: REACH", x.about(2, 1), 1);
        DUE.is("6: GO", x.about(2, 2), 25);
        DUE.is("6: LATER", x.about(2, 3), 4);
        DUE.is("6: others are as they were", x.about(3, 0) * 1000 + x.about(3, 1) * 100 + x.about(3, 2), 331);
        for (int reach = 0; reach <= 3; reach++) {
            Calls.terms(x, 0, "" + reach);
            DUE.is("6: REACH " + reach, x.about(0, 1), reach);
        }
        DUE.is("6: about(-1, 0)", x.about(-1, 0), UNKNOWN);
        DUE.is("6: about(5, 9)", x.about(5, 9), UNKNOWN);
        DUE.is("6: about(0, -1)", x.about(0, -1), OUTSIDE);
        DUE.is("6: about(0, 4)", x.about(0, 4), OUTSIDE);
    }

    private static void later() {
        UnderTerms x = new UnderTerms();
        DUE.is("7: later(0, 4)", x.later(0, 4), NONE);
        DUE.is("7: later(0, 1)", x.later(0, 1), 4);
        DUE.is("7: later(0, 0)", x.later(0, 0), OUTSIDE);
        DUE.is("7: later(0, 5)", x.later(0, 5), OUTSIDE);
        DUE.is("7: later(0, -2)", x.later(0, -2), OUTSIDE);
        DUE.is("7: later(0, NONE)", x.later(0, NONE), OUTSIDE);
        DUE.is("7: later(5, 5)", x.later(5, 5), UNKNOWN);
        DUE.is("7: later(-1, -1)", x.later(-1, -1), UNKNOWN);
        DUE.is("7: it is as it was", x.about(0, 3), 1);
        DUE.is("7: later(0, -1)", x.later(0, -1), 1);
        DUE.is("7: later(0, -1) again", x.later(0, -1), NONE);
    }

    private static void pieceIs(UnderTerms x, int piece, int what, int v, int want) {
        DUE.is("8: piece(" + piece + ", " + what + ", " + v + ")", x.piece(piece, what, v), want);
    }

    private static void piece() {
        int[] first = {1, 0, 1, 10};
        int[] least = {1, 0, 0, 0};
        int[] most = {31, 1, 63, 999};
        for (int what = 0; what < 4; what++) {
            UnderTerms x = new UnderTerms();
            pieceIs(x, 5, what, most[what], first[what]);
            pieceIs(x, 5, what, most[what] + 1, OUTSIDE);
            pieceIs(x, 5, what, least[what] - 1, OUTSIDE);
            pieceIs(x, 5, what, least[what], most[what]);
            pieceIs(x, 5, what, most[what], least[what]);
            pieceIs(x, 6, what, most[what], UNKNOWN);
            pieceIs(x, -1, what, most[what] + 1, UNKNOWN);
            DUE.is("8: another PIECE", x.told(new int[] {14, 44, 24, 34}[what]), first[what]);
        }
        pieceIs(new UnderTerms(), 0, 4, 1, OUTSIDE);
        pieceIs(new UnderTerms(), 0, -1, 1, OUTSIDE);
        pieceIs(new UnderTerms(), 6, 4, 1, UNKNOWN);
    }

    private static void usesIs(UnderTerms x, int piece, int other, int kind, int want) {
        DUE.is("9: uses(" + piece + ", " + other + ", " + kind + ")", x.uses(piece, other, kind), want);
    }

    private static void uses() {
        UnderTerms x = new UnderTerms();
        usesIs(x, 5, 0, 3, NONE);
        usesIs(x, 5, 0, 0, 3);
        usesIs(x, 5, 0, 4, OUTSIDE);
        usesIs(x, 5, 0, -2, OUTSIDE);
        usesIs(x, 5, 0, -1, 0);
        usesIs(x, 5, 0, -1, NONE);
        usesIs(x, 1, 0, 2, NONE);
        usesIs(x, 1, 1, 2, UNKNOWN);
        usesIs(x, 1, 2, 2, UNKNOWN);
        usesIs(x, 0, 0, 0, UNKNOWN);
        usesIs(x, 6, 5, 0, UNKNOWN);
        usesIs(x, 5, 6, 0, UNKNOWN);
        usesIs(x, 5, -1, 0, UNKNOWN);
        usesIs(x, -1, -2, 0, UNKNOWN);
        usesIs(x, 3, 4, 9, UNKNOWN);
        usesIs(x, Integer.MIN_VALUE, 0, 0, UNKNOWN);
        DUE.is("9: told(108)", x.told(108), 2);
    }

    private static void choices() {
        UnderTerms x = new UnderTerms();
        x.later(0, 2);
        x.later(2, 1);
        x.later(1, 4);
        DUE.is("10: not OR LATER", x.choices(3), 1);
        x.piece(3, 1, 1);
        DUE.is("10: LATER ones of LATER ones", x.choices(3), 23);
        x.later(4, 0);
        DUE.is("10: a ring", x.choices(3), 23);
        x.piece(3, 0, 8);
        DUE.is("10: without LATER ones", x.choices(3), 8);
        x.later(3, 4);
        DUE.is("10: into the ring", x.choices(3), 31);
        x.piece(3, 1, 0);
        DUE.is("10: no more OR LATER", x.choices(3), 8);
        DUE.is("10: another PIECE", x.choices(2), 1);
        DUE.is("10: choices(6)", x.choices(6), UNKNOWN);
        DUE.is("10: choices(-1)", x.choices(-1), UNKNOWN);
        UnderTerms chain = new UnderTerms();
        for (int t = 4; t > 0; t--) {
            chain.later(t, t - 1);
        }
        chain.piece(0, 0, 16);
        chain.piece(0, 1, 1);
        DUE.is("10: the longest chain, downwards", chain.choices(0), 31);
    }

    private static void whole() {
        UnderTerms x = new UnderTerms();
        DUE.is("11: whole(0)", x.whole(0), 5);
        DUE.is("11: whole(6)", x.whole(6), UNKNOWN);
        DUE.is("11: whole(-1)", x.whole(-1), UNKNOWN);
        DUE.is("11: whole(3)", x.whole(3), 0);
        DUE.is("11: THE WHOLE", x.told(1), 3);
        DUE.is("11: pieces", x.pieces(), 8);
    }

    private static void coin() {
        UnderTerms x = new UnderTerms();
        DUE.is("12: coin(99)", x.coin(99), 5);
        DUE.is("12: coin(100)", x.coin(100), OUTSIDE);
        DUE.is("12: coin(-1)", x.coin(-1), OUTSIDE);
        DUE.is("12: coin(0)", x.coin(0), 99);
        DUE.is("12: LOOSER coin", x.told(2), 0);
    }
}
