/** Promises 1 to 7: each sentence that names a bound. */
public final class BoundsOfTermsTest {
    private static final Due DUE = new Due("BoundsOfTermsTest");
    private static final Edges EDGES = new Edges(DUE);
    private static final int NONE = UnderTerms.NONE, UNKNOWN = UnderTerms.UNKNOWN, OUTSIDE = UnderTerms.OUTSIDE,
        STATE = UnderTerms.STATE, FULL = UnderTerms.FULL, NO = UnderTerms.NO;

    public static void main(String[] args) {
        promise1NothingUsesAnything();
        promise1TermsAre3AtFirst();
        promise1PiecesAtFirst();
        promise1FirstAnswers();
        promise1ObjectsAreApart();
        promise1The512thCall();
        promise2SignsFrom33To126();
        promise2TwentySigns();
        promise2FullPad();
        promise2RoomAgain();
        promise3NoneOneTwenty();
        promise3NothingIsLeft();
        promise3LeavesAllElse();
        promise4EmptyPad();
        promise4EachLetterOnce();
        promise4ReachFrom0To3();
        promise4ColonAndDigits();
        promise4MoreMustCome();
        promise4FullPad();
        promise4EverySignBehindEveryBeginning();
        promise4ChangesNothing();
        promise5TermsFrom0To4();
        promise5NoWhereThereIsAFault();
        promise5AsksInAnyOrder();
        promise5GoUnderAllFive();
        promise5NothingOfTheOldText();
        promise6TermsAndWhat();
        promise6LaterNoneAnd0();
        promise7LaterFrom0To4();
        promise7None();
        promise7ItsOwn();
        DUE.end();
    }

    private static void promise1NothingUsesAnything() {
        UnderTerms x = new UnderTerms();
        for (int p = 0; p < 6; p++) {
            for (int other = 0; other < p; other++) {
                DUE.is("1: " + p + " USES " + other, x.told(100 + 8 * p + other), NONE);
            }
        }
        for (int p = 0; p < 6; p++) {
            x.whole(p);
            DUE.is("1: PIECES of the WHOLE " + p, x.pieces(), 1 << p);
        }
    }

    private static void promise1TermsAre3AtFirst() {
        UnderTerms x = new UnderTerms();
        for (int t = 0; t < 5; t++) {
            DUE.is("1: ASKS of " + t, x.about(t, 0), 0);
            DUE.is("1: REACH of " + t, x.about(t, 1), 3);
            DUE.is("1: GO of " + t, x.about(t, 2), 31);
            DUE.is("1: LATER of " + t, x.about(t, 3), NONE);
        }
        for (int t = 0; t < 5; t++) {
            Calls.terms(x, t, "3");
        }
        DUE.same("1: the text 3 for all", Calls.state(x), Calls.state(new UnderTerms()));
    }

    private static void promise1PiecesAtFirst() {
        UnderTerms x = new UnderTerms();
        for (int p = 0; p < 6; p++) {
            DUE.is("1: OFFERED of " + p, x.told(10 + p), 1);
            DUE.is("1: OWNERS of " + p, x.told(20 + p), 1);
            DUE.is("1: ANEW of " + p, x.told(30 + p), 10);
            DUE.is("1: OR LATER of " + p, x.told(40 + p), 0);
        }
        DUE.is("1: signs", x.told(0), 0);
        DUE.is("1: THE WHOLE", x.told(1), 5);
        DUE.is("1: LOOSER coin", x.told(2), 5);
        DUE.is("1: IMAGE 0", x.restore(0), STATE);
        DUE.is("1: IMAGE 1", x.restore(1), STATE);
    }

    private static void promise1FirstAnswers() {
        UnderTerms x = new UnderTerms();
        DUE.is("1: fault", x.fault(), 0);
        DUE.is("1: by, who REACHES", x.by(0, 0), 0);
        DUE.is("1: by, MUSTS", x.by(0, 1) | x.by(0, 2) | x.by(0, 3), 0);
        DUE.is("1: by, MAY GO", x.by(0, 4), 1);
        DUE.is("1: BEST, MUSTS", x.best(0, -1), 0);
        DUE.is("1: BEST, MAY GO", x.best(0, -2), 1);
        DUE.is("1: GOOD", x.good(), 1);
        DUE.is("1: BAR", x.bar(), STATE);
        DUE.is("1: ANEW", x.anew(0), 0);
        DUE.is("1: LOOSER", x.looser(0), 0);
        DUE.is("1: AGREE to 0", x.agree(0, 0), 0);
        DUE.is("1: AGREE to 1", x.agree(1, 0), 1);
        DUE.is("1: MORE", x.more(4, 0, 0), 0);
        DUE.is("1: NAMES", x.names(-1), 0);
        DUE.is("1: AUDIT of THE WHOLE", x.audit(5, 0) * 10 + x.audit(5, 1), 1);
        DUE.is("1: AUDIT of another one", x.audit(4, 0), NONE);
    }

    private static void promise1ObjectsAreApart() {
        UnderTerms x = new UnderTerms();
        String first = Calls.state(x);
        Edges.filled();
        DUE.same("1: another object was filled", Calls.state(x), first);
        DUE.is("1: another object has IMAGES", x.restore(0), STATE);
        DUE.same("1: made behind a filled one", Calls.state(new UnderTerms()), first);
    }

    /** An object is used for at most 512 calls: the last one of them answers as due, too. */
    private static void promise1The512thCall() {
        UnderTerms x = new UnderTerms();
        for (int n = 0; n < 255; n++) {
            x.image(n % 2);
            x.restore(n % 2);
        }
        DUE.is("1: call 511", x.say('0'), 1);
        DUE.is("1: call 512", x.terms(4), 0);
        UnderTerms y = new UnderTerms();
        for (int n = 0; n < 511; n++) {
            y.good();
        }
        DUE.is("1: call 512 is a question", y.good(), 1);
    }

    private static void promise2SignsFrom33To126() {
        for (int sign = 33; sign <= 126; sign++) {
            DUE.is("2: say(" + sign + ")", new UnderTerms().say(sign), 1);
        }
        EDGES.beyond("2: say(_)", 33, 126, UnderTerms::say, OUTSIDE);
        // Numbers that would be a sign if some of their bits were cut off.
        for (int v : new int[] {0, -1, -33, 33 + 128, 33 + 256, 126 + 65536, 33 - 65536}) {
            EDGES.refused("2: say(" + v + ")", x -> x.say(v), OUTSIDE);
        }
    }

    private static void promise2TwentySigns() {
        UnderTerms x = new UnderTerms();
        for (int n = 1; n <= 20; n++) {
            DUE.is("2: sign " + n, x.say(n % 2 == 0 ? 33 : 126), n);
        }
        DUE.is("2: sign 21", x.say(33), FULL);
        DUE.is("2: signs", x.told(0), 20);
    }

    private static void promise2FullPad() {
        EDGES.refusedOn("2: FULL", Edges::filled, x -> x.say('n'), FULL);
        EDGES.refusedOn("2: FULL, the least sign", Edges::filled, x -> x.say(33), FULL);
        EDGES.refusedOn("2: FULL, the greatest sign", Edges::filled, x -> x.say(126), FULL);
        EDGES.refusedOn("2: OUTSIDE ahead of FULL, 32", Edges::filled, x -> x.say(32), OUTSIDE);
        EDGES.refusedOn("2: OUTSIDE ahead of FULL, 127", Edges::filled, x -> x.say(127), OUTSIDE);
    }

    private static void promise2RoomAgain() {
        UnderTerms x = Edges.filled();
        DUE.is("2: FULL", x.say('0'), FULL);
        x.wipe();
        DUE.is("2: room behind wipe", x.say('0'), 1);
        x.terms(0);
        DUE.is("2: room behind terms", x.say('0'), 1);
        for (int n = 2; n <= 20; n++) {
            DUE.is("2: sign " + n + " again", x.say('!'), n);
        }
        DUE.is("2: FULL again", x.say('0'), FULL);
    }

    private static void promise3NoneOneTwenty() {
        UnderTerms x = new UnderTerms();
        DUE.is("3: none", x.wipe(), 0);
        x.say('n');
        DUE.is("3: one", x.wipe(), 1);
        DUE.is("3: none again", x.wipe(), 0);
        Calls.say(x, "!!!!!!!!!!!!!!!!!!!!");
        DUE.is("3: twenty", x.wipe(), 20);
        Calls.say(x, "!!!!!!!!!!!!!!!!!!!!");
        x.say('!');
        DUE.is("3: one that was refused is not counted", x.wipe(), 20);
        x.say(32);
        DUE.is("3: none that is no sign", x.wipe(), 0);
        Calls.say(x, "n0");
        x.terms(0);
        DUE.is("3: none behind terms", x.wipe(), 0);
    }

    private static void promise3NothingIsLeft() {
        UnderTerms x = new UnderTerms();
        Calls.say(x, "nspac0:01234");
        x.wipe();
        DUE.is("3: signs", x.told(0), 0);
        DUE.is("3: fault", x.fault(), 0);
        Calls.say(x, "p2");
        DUE.is("3: fault of new signs", x.fault(), NONE);
        DUE.is("3: ASKS of new signs", x.terms(1), 4);
        DUE.is("3: GO of new signs", x.about(1, 2), 31);
    }

    private static void promise3LeavesAllElse() {
        UnderTerms x = Edges.filled();
        x.wipe();
        UnderTerms y = Edges.filled();
        y.wipe();
        y.say('n');
        y.wipe();
        DUE.same("3: all but signs", Edges.look(x), Edges.look(y));
        UnderTerms z = Edges.filled();
        int whole = z.told(1);
        z.wipe();
        DUE.is("3: THE WHOLE", z.told(1), whole);
        DUE.is("3: IMAGES stay", z.restore(1), 1);
    }

    private static void faultIs(String signs, int want) {
        UnderTerms x = new UnderTerms();
        Calls.say(x, signs);
        DUE.is("4: fault of " + signs, x.fault(), want);
    }

    private static void promise4EmptyPad() {
        faultIs("", 0);
        UnderTerms x = new UnderTerms();
        Calls.say(x, "0");
        x.terms(0);
        DUE.is("4: fault behind terms", x.fault(), 0);
    }

    private static void promise4EachLetterOnce() {
        faultIs("0", NONE);
        for (char letter : "nspac".toCharArray()) {
            faultIs(letter + "0", NONE);
            faultIs("" + letter + letter + "0", 1);
            faultIs("0" + letter, 1);
            String others = "nspac".replace("" + letter, "");
            faultIs(letter + others + "0", NONE);
            faultIs(letter + others + letter + "0", 5);
            faultIs(others + letter + letter + "0", 5);
            faultIs((char) (letter - 32) + "0", 0);
        }
        faultIs("nspac0", NONE);
        faultIs("capsn0", NONE);
    }

    private static void promise4ReachFrom0To3() {
        faultIs("/", 0);
        faultIs("0", NONE);
        faultIs("3", NONE);
        faultIs("4", 0);
        faultIs("nspac/", 5);
        faultIs("nspac0", NONE);
        faultIs("nspac3", NONE);
        faultIs("nspac4", 5);
        faultIs("00", 1);
        faultIs("30", 1);
    }

    private static void promise4ColonAndDigits() {
        faultIs("0:/", 2);
        faultIs("0:0", NONE);
        faultIs("0:4", NONE);
        faultIs("0:5", 2);
        faultIs("0::", 2);
        faultIs("0:01234", NONE);
        faultIs("0:012345", 7);
        faultIs("0:01234:", 7);
        faultIs("0:01234n", 7);
        faultIs("0;0", 1);
        faultIs("00:0", 1);
        for (int a = 0; a < 5; a++) {
            for (int b = 0; b < 5; b++) {
                faultIs("0:" + a + b, a < b ? NONE : 3);
            }
        }
    }

    private static void promise4MoreMustCome() {
        faultIs("n", 1);
        faultIs("nspac", 5);
        faultIs("0:", 2);
        faultIs("nspac3:", 7);
        // A sign that can not stand there comes ahead of what must still come.
        faultIs("nn", 1);
        faultIs("nspacx", 5);
    }

    private static void promise4FullPad() {
        faultIs("!!!!!!!!!!!!!!!!!!!!", 0);
        faultIs("nspac3:01234!!!!!!!!", 12);
        faultIs("nspac3:01234", NONE);
        UnderTerms x = Edges.filled();
        DUE.is("4: a full PAD", x.fault(), 12);
        x.say('0');
        DUE.is("4: a sign that was refused does not count", x.fault(), 12);
    }

    private static void promise4EverySignBehindEveryBeginning() {
        String[] asks = {"", "n", "s", "p", "a", "c", "na", "ps", "cap", "scan", "nspac", "capsn"};
        for (String letters : asks) {
            everySignBehind(letters);
            for (int reach = 0; reach <= 3; reach++) {
                everySignBehind(letters + reach);
                for (int go = 0; go < 32; go++) {
                    everySignBehind(letters + reach + ":" + digits(go));
                }
            }
        }
    }

    private static String digits(int bits) {
        StringBuilder digits = new StringBuilder();
        for (int t = 0; t < 5; t++) {
            if ((bits & 1 << t) != 0) {
                digits.append(t);
            }
        }
        return digits.toString();
    }

    private static void everySignBehind(String beginning) {
        for (int sign = 33; sign <= 126; sign++) {
            UnderTerms x = new UnderTerms();
            Model m = new Model();
            for (char c : (beginning + (char) sign).toCharArray()) {
                x.say(c);
                m.say(c);
            }
            int fault = x.fault();
            DUE.is("4: fault of " + beginning + (char) sign, fault, m.fault());
            DUE.is("5: terms of " + beginning + (char) sign, x.terms(0), fault == NONE ? m.terms(0) : NO);
        }
    }

    private static void promise4ChangesNothing() {
        EDGES.changesNothing("4: fault of an empty PAD", UnderTerms::new, UnderTerms::fault, 0);
        EDGES.changesNothing("4: fault of a full PAD", Edges::filled, UnderTerms::fault, 12);
        EDGES.changesNothing("4: fault of a text", Edges::ready, UnderTerms::fault, NONE);
    }

    private static void promise5TermsFrom0To4() {
        EDGES.beyond("5: terms(_)", 0, 4, UnderTerms::terms, UNKNOWN);
        for (int t = 0; t < 5; t++) {
            UnderTerms x = Edges.ready();
            DUE.is("5: terms(" + t + ")", x.terms(t), 6);
            DUE.is("5: the PAD is empty then", x.told(0), 0);
            DUE.is("5: ASKS", x.about(t, 0), 6);
            DUE.is("5: REACH", x.about(t, 1), 1);
            DUE.is("5: GO", x.about(t, 2), 5);
            DUE.is("5: the PAD does not become others, too", x.terms((t + 1) % 5), NO);
            DUE.is("5: others are as they were", x.about((t + 1) % 5, 0), 1 << (t + 1) % 5);
        }
    }

    private static void promise5NoWhereThereIsAFault() {
        EDGES.refusedOn("5: an empty PAD", UnderTerms::new, x -> x.terms(0), NO);
        EDGES.refusedOn("5: a full PAD", Edges::filled, x -> x.terms(4), NO);
        EDGES.refusedOn("5: UNKNOWN ahead of NO, -1", Edges::filled, x -> x.terms(-1), UNKNOWN);
        EDGES.refusedOn("5: UNKNOWN ahead of NO, 5", UnderTerms::new, x -> x.terms(5), UNKNOWN);
        for (String text : new String[] {"n", "0:", "4", "nn0", "0:00", "0:10", "0:5", "00"}) {
            UnderTerms x = Edges.filled();
            x.wipe();
            Calls.say(x, text);
            String before = Calls.state(x);
            DUE.is("5: terms of " + text, x.terms(2), NO);
            DUE.same("5: nothing has changed", Calls.state(x), before);
        }
        UnderTerms x = new UnderTerms();
        Calls.say(x, "n");
        DUE.is("5: more must come", x.terms(0), NO);
        Calls.say(x, "2:");
        DUE.is("5: still more must come", x.terms(0), NO);
        Calls.say(x, "3");
        DUE.is("5: the signs were left", x.terms(0), 1);
        DUE.is("5: and became TERMS", x.about(0, 1) * 100 + x.about(0, 2), 208);
    }

    private static void promise5AsksInAnyOrder() {
        int[] bits = new int[32];
        everyOrder("", bits);
        int orders = 0;
        for (int n : bits) {
            orders += n;
        }
        DUE.is("5: texts of ASKS", orders, 1 + 5 + 20 + 60 + 120 + 120);
    }

    private static void everyOrder(String asks, int[] seen) {
        int want = 0;
        for (char letter : asks.toCharArray()) {
            want |= 1 << "nspac".indexOf(letter);
        }
        UnderTerms x = new UnderTerms();
        DUE.is("5: ASKS of " + asks + "0", Calls.terms(x, 0, asks + "0"), want);
        DUE.is("6: ASKS of " + asks + "0", x.about(0, 0), want);
        seen[want]++;
        for (char letter : "nspac".toCharArray()) {
            if (asks.indexOf(letter) < 0) {
                everyOrder(asks + letter, seen);
            }
        }
    }

    private static void promise5GoUnderAllFive() {
        UnderTerms x = new UnderTerms();
        for (int go = 1; go < 32; go++) {
            Calls.terms(x, 2, "1:" + digits(go));
            DUE.is("5: GO of 1:" + digits(go), x.about(2, 2), go);
        }
        Calls.terms(x, 2, "1:0");
        Calls.terms(x, 2, "1");
        DUE.is("5: without : under all five", x.about(2, 2), 31);
    }

    private static void promise5NothingOfTheOldText() {
        UnderTerms x = new UnderTerms();
        x.later(4, 0);
        Calls.terms(x, 4, "nspac0:4");
        Calls.terms(x, 4, "3");
        DUE.is("5: no ASKS", x.about(4, 0), 0);
        DUE.is("5: REACH 3", x.about(4, 1), 3);
        DUE.is("5: GO under all", x.about(4, 2), 31);
        DUE.is("5: LATER stays", x.about(4, 3), 0);
    }

    private static void promise6TermsAndWhat() {
        for (int what = 0; what <= 3; what++) {
            int w = what;
            EDGES.beyond("6: about(_, " + w + ")", 0, 4, (x, t) -> x.about(t, w), UNKNOWN);
        }
        for (int t : new int[] {0, 4}) {
            EDGES.beyond("6: about(" + t + ", _)", 0, 3, (x, what) -> x.about(t, what), OUTSIDE);
        }
        EDGES.refused("6: UNKNOWN ahead of OUTSIDE", x -> x.about(-1, 4), UNKNOWN);
        EDGES.refused("6: UNKNOWN ahead of OUTSIDE, above", x -> x.about(5, -1), UNKNOWN);
        int[][] want = {{1, 1, 1, 3}, {2, 2, 2, 2}, {4, 3, 4, NONE}, {8, 0, 8, 4}, {16, 1, 16, 0}};
        for (int t = 0; t < 5; t++) {
            for (int what = 0; what <= 3; what++) {
                int w = what;
                int of = t;
                EDGES.changesNothing("6: about(" + t + ", " + w + ")", Edges::filled, x -> x.about(of, w), want[t][w]);
            }
        }
    }

    private static void promise6LaterNoneAnd0() {
        UnderTerms x = new UnderTerms();
        DUE.is("6: no LATER", x.about(1, 3), NONE);
        x.later(1, 0);
        DUE.is("6: LATER 0", x.about(1, 3), 0);
        x.later(1, -1);
        DUE.is("6: no LATER any more", x.about(1, 3), NONE);
        Calls.terms(x, 1, "0:0");
        DUE.is("6: no ASKS", x.about(1, 0), 0);
        DUE.is("6: REACH 0", x.about(1, 1), 0);
        DUE.is("6: GO under one", x.about(1, 2), 1);
    }

    private static void promise7LaterFrom0To4() {
        EDGES.beyond("7: later(_, 0)", 0, 4, (x, t) -> x.later(t, 0), UNKNOWN);
        EDGES.beyond("7: later(_, -1)", 0, 4, (x, t) -> x.later(t, -1), UNKNOWN);
        for (int t : new int[] {0, 4}) {
            EDGES.beyond("7: later(" + t + ", _)", -1, 4, (x, v) -> x.later(t, v), OUTSIDE);
            EDGES.refused("7: later(" + t + ", NONE)", x -> x.later(t, NONE), OUTSIDE);
        }
        EDGES.refused("7: UNKNOWN ahead of OUTSIDE", x -> x.later(5, 6), UNKNOWN);
        EDGES.refused("7: UNKNOWN ahead of OUTSIDE, its own", x -> x.later(5, 5), UNKNOWN);
        EDGES.refused("7: UNKNOWN ahead of OUTSIDE, below", x -> x.later(-2, -2), UNKNOWN);
        for (int t = 0; t < 5; t++) {
            UnderTerms x = new UnderTerms();
            int was = NONE;
            for (int v = 0; v < 5; v++) {
                if (v != t) {
                    DUE.is("7: later(" + t + ", " + v + ")", x.later(t, v), was);
                    DUE.is("7: it is " + v, x.about(t, 3), v);
                    was = v;
                }
            }
            DUE.is("7: the same again", x.later(t, was), was);
            DUE.is("7: none of others", x.about((t + 1) % 5, 3), NONE);
        }
    }

    private static void promise7None() {
        UnderTerms x = new UnderTerms();
        DUE.is("7: none where there is none", x.later(0, -1), NONE);
        DUE.is("7: there was none", x.later(0, 1), NONE);
        DUE.is("7: there was one", x.later(0, -1), 1);
        DUE.is("7: there is none", x.later(0, -1), NONE);
        DUE.is("7: later(1, 0)", x.later(1, 0), NONE);
        DUE.is("7: 0 is not none", x.later(1, -1), 0);
    }

    private static void promise7ItsOwn() {
        for (int t = 0; t < 5; t++) {
            int own = t;
            EDGES.refused("7: later(" + t + ", its own)", x -> x.later(own, own), OUTSIDE);
        }
    }
}
