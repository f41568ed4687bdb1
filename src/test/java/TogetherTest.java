import java.util.Random;

/** Calls that speak of the same thing are held against each other on the same state. */
public final class TogetherTest {
    private static final Due DUE = new Due("TogetherTest");
    private static final int NONE = UnderTerms.NONE, STATE = UnderTerms.STATE;
    private static final int STATES = 600;

    private static Random random;
    private static int barred = 0;
    private static int loosened = 0;
    private static int named = 0;

    public static void main(String[] args) {
        for (int n = 0; n < STATES; n++) {
            random = new Random(1000 + n);
            goodAndBest(someState(), n);
            goodAndBar(someState(), n);
            barAndAnew(someState(), n);
            looserAndGood(someState(), n);
            moreAndBest(someState(), n);
            namesAndBest(someState(), n);
            agreeAndChoices(someState(), n);
            imagesAndTold(someState(), n);
        }
        // Else the tests above would have held nothing against anything.
        DUE.is("enough states bar", barred > STATES / 10 ? 1 : 0, 1);
        DUE.is("enough states are made looser", loosened > STATES / 20 ? 1 : 0, 1);
        DUE.is("enough owners are named", named > STATES / 10 ? 1 : 0, 1);
        DUE.end();
    }

    private static UnderTerms someState() {
        UnderTerms x = new UnderTerms();
        String[] asks = {"", "n", "s", "np", "nc", "a", "sp", "nspac"};
        String[] go = {"", ":0", ":1", ":01", ":12", ":234", ":34", ":024"};
        for (int t = 0; t < 5; t++) {
            Calls.terms(x, t, asks[random.nextInt(8)] + random.nextInt(4) + go[random.nextInt(8)]);
            x.later(t, random.nextInt(6) - 1);
        }
        for (int p = 0; p < 6; p++) {
            x.piece(p, 0, random.nextBoolean() ? 1 << random.nextInt(5) : 1 + random.nextInt(31));
            x.piece(p, 1, random.nextInt(3) / 2);
            x.piece(p, 2, random.nextInt(64));
            x.piece(p, 3, random.nextInt(4));
            for (int other = 0; other < p; other++) {
                x.uses(p, other, Math.max(-1, random.nextInt(7) - 3));
            }
        }
        x.coin(random.nextInt(3));
        return x;
    }

    private static int chosenOf(UnderTerms x, int way) {
        int number = 0;
        for (int p = 5; p >= 0; p--) {
            number = number * 10 + Math.max(0, x.best(way, p));
        }
        return number;
    }

    private static void goodAndBest(UnderTerms x, int n) {
        boolean none = x.good() == 0;
        for (int way = 0; way < 3; way++) {
            String of = "state " + n + " way " + way;
            DUE.is(of + ": BEST is there, if some is GOOD", x.best(way, -1) == NONE ? 1 : 0, none ? 1 : 0);
            if (!none) {
                int chosen = chosenOf(x, way);
                DUE.is(of + ": by BEST: MUSTS", x.by(chosen, 1 + way), x.best(way, -1));
                DUE.is(of + ": by BEST: MAY GO", x.by(chosen, 4), x.best(way, -2));
            }
        }
    }

    private static void goodAndBar(UnderTerms x, int n) {
        boolean none = x.good() == 0;
        int bar = x.bar();
        DUE.is("state " + n + ": BAR, if none is GOOD", bar == STATE ? 1 : 0, none ? 0 : 1);
        DUE.is("state " + n + ": LOOSER is 0, if some is GOOD", x.looser(0) == 0 ? 1 : 0, none ? 0 : 1);
        DUE.is("state " + n + ": ANEW is none, if some is GOOD", x.anew(0) == 0 ? 1 : 0, none ? 0 : 1);
        if (none) {
            barred++;
            DUE.is("state " + n + ": BAR is of THE WHOLE", bar & ~x.pieces() & 31, 0);
            DUE.is("state " + n + ": nobody is named", x.names(-1), NONE);
        }
    }

    /** Terms 4 that ask nothing stand for "REACH nothing": what is under them alone is as if written anew. */
    private static void setFree(UnderTerms x, int set) {
        for (int p = 0; p < 5; p++) {
            if ((set & 1 << p) != 0) {
                x.piece(p, 0, 16);
                x.piece(p, 1, 0);
            }
        }
    }

    private static void barAndAnew(UnderTerms x, int n) {
        Calls.terms(x, 4, "0");
        int bar = x.bar();
        int anew = x.anew(0);
        int cost = 0;
        for (int p = 0; p < 6; p++) {
            cost += (anew & 1 << p) != 0 ? x.told(30 + p) : 0;
        }
        DUE.is("state " + n + ": the coin of ANEW", x.anew(1), cost);
        x.image(0);
        setFree(x, anew);
        DUE.is("state " + n + ": GOOD when written ANEW", x.good() > 0 ? 1 : 0, 1);
        if (bar == STATE) {
            return;
        }
        DUE.is("state " + n + ": ANEW breaks the BAR", (bar & anew) != 0 ? 1 : 0, 1);
        x.restore(0);
        setFree(x, 31 & ~bar);
        DUE.is("state " + n + ": the BAR alone", x.good(), 0);
        for (int p = 0; p < 5; p++) {
            if ((bar & 1 << p) != 0) {
                x.restore(0);
                setFree(x, 31 & ~bar | 1 << p);
                DUE.is("state " + n + ": the BAR without " + p, x.good() > 0 ? 1 : 0, 1);
            }
        }
    }

    private static void looserAndGood(UnderTerms x, int n) {
        int pair = x.looser(0);
        int cost = x.looser(1);
        if (pair == NONE || pair == 0) {
            DUE.is("state " + n + ": the coin, where there is no pair", cost, pair);
            return;
        }
        loosened++;
        int members = x.pieces();
        int changed = 0;
        for (int p = 0; p < 6; p++) {
            for (int other = 0; other < p; other++) {
                if ((members & 1 << p) != 0 && x.told(100 + 8 * p + other) == pair / 10) {
                    x.uses(p, other, pair % 10);
                    changed++;
                }
            }
        }
        DUE.is("state " + n + ": GOOD when LOOSER", x.good() > 0 ? 1 : 0, 1);
        DUE.is("state " + n + ": the coin of LOOSER", cost, changed * x.told(2) * (pair % 10 - pair / 10));
    }

    private static void moreAndBest(UnderTerms x, int n) {
        int piece = random.nextInt(5);
        int kind = random.nextInt(4);
        int way = random.nextInt(3);
        int more = x.more(piece, kind, way);
        if (x.told(140 + piece) != NONE) {
            DUE.is("state " + n + ": MORE of what is USED", more, STATE);
            return;
        }
        int before = x.best(way, -1);
        x.uses(5, piece, kind);
        int after = x.best(way, -1);
        DUE.is("state " + n + ": MORE", more, before == NONE || after == NONE ? NONE : after & ~before);
    }

    private static void namesAndBest(UnderTerms x, int n) {
        int all = x.names(-1);
        if (x.best(0, -1) == NONE) {
            DUE.is("state " + n + ": NAMES, none is GOOD", all, NONE);
            return;
        }
        DUE.is("state " + n + ": NAMES are asked for", all > 0 ? 1 : 0, names(x).isEmpty() ? 0 : 1);
        String list = "";
        for (int i = 0; i < all; i++) {
            list += x.names(i);
        }
        named += all;
        DUE.same("state " + n + ": NAMES", list, names(x));
    }

    private static String names(UnderTerms x) {
        int reaching = x.by(chosenOf(x, 0), 0);
        int[] counts = new int[6];
        for (int p = 0; p < 5; p++) {
            for (int owner = 0; owner < 6; owner++) {
                boolean asks = (reaching & 1 << p) != 0 && (x.about(x.best(0, p), 0) & 1) != 0;
                counts[owner] += asks ? x.told(20 + p) >> owner & 1 : 0;
            }
        }
        String list = "";
        for (int most = 5; most > 0; most--) {
            for (int owner = 0; owner < 6; owner++) {
                list += counts[owner] == most ? "" + owner : "";
            }
        }
        return list;
    }

    private static void agreeAndChoices(UnderTerms x, int n) {
        for (int t = 0; t < 5; t++) {
            int anew = random.nextInt(64);
            int owners = 0;
            for (int p = 0; p < 6; p++) {
                boolean asked = x.audit(p, 0) != NONE && (anew & 1 << p) == 0;
                owners |= asked && (x.choices(p) & 1 << t) == 0 ? x.told(20 + p) : 0;
            }
            DUE.is("state " + n + ": AGREE to " + t, x.agree(t, anew), owners);
        }
    }

    private static void imagesAndTold(UnderTerms x, int n) {
        Calls.say(x, "nsp");
        String before = Calls.state(x);
        x.image(n % 2);
        x.uses(5, 4, 3);
        x.piece(2, 2, 9);
        x.whole(3);
        x.later(0, 3);
        x.coin(50);
        x.say('4');
        x.restore(n % 2);
        DUE.is("state " + n + ": signs are not kept", x.wipe(), 4);
        Calls.say(x, "nsp");
        DUE.same("state " + n + ": it is as it was", Calls.state(x), before);
    }
}
