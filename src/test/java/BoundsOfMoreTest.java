/** Promises 21 to 26: each sentence that names a bound. */
public final class BoundsOfMoreTest {
    private static final Due DUE = new Due("BoundsOfMoreTest");
    private static final Edges EDGES = new Edges(DUE);
    private static final int NONE = UnderTerms.NONE, UNKNOWN = UnderTerms.UNKNOWN, OUTSIDE = UnderTerms.OUTSIDE,
        STATE = UnderTerms.STATE, FULL = UnderTerms.FULL;

    public static void main(String[] args) {
        promise21BelowTheWhole();
        promise21KindAndWay();
        promise21UsedAlready();
        promise21OrderOfRefusals();
        promise21NoneIsGood();
        promise21NothingAndAll();
        promise21KindNoMoreThanReach();
        promise21ChangesNothing();
        promise22NobodyIsNamed();
        promise22OneAndSix();
        promise22MostFirstThenByNumber();
        promise22OtherNumbers();
        promise22NoneIsGood();
        promise22NotTheWholeItself();
        promise22ByBestUnderWay0();
        promise23PieceAndWhat();
        promise23TheWholeItself();
        promise23NotOfTheWhole();
        promise23LongestAndMost();
        promise23WaysFromTheWholeAlone();
        promise24Images0And1();
        promise24AllButSigns();
        promise24KeptAnew();
        promise24KeptAndGone();
        promise25Images0And1();
        promise25ItWasNotKept();
        promise25SignsStay();
        promise25AsOftenAsAsked();
        promise26EveryNumber();
        promise26EmptyAndFull();
        DUE.end();
    }

    private static void promise21BelowTheWhole() {
        for (int whole = 0; whole < 6; whole++) {
            int w = whole;
            for (int p : new int[] {Integer.MIN_VALUE, -6, -1, 0, 1, 2, 3, 4, 5, 6, Integer.MAX_VALUE}) {
                String call = "21: more(" + p + ", 0, 0) by WHOLE " + w;
                if (p >= 0 && p < w) {
                    EDGES.changesNothing(call, () -> newWhole(w), x -> x.more(p, 0, 0), 0);
                } else {
                    EDGES.refusedOn(call, () -> newWhole(w), x -> x.more(p, 0, 0), UNKNOWN);
                }
            }
        }
        EDGES.beyond("21: more(_, 0, 0)", 0, 5, (x, p) -> x.more(p, 0, 0), UNKNOWN);
    }

    private static UnderTerms newWhole(int whole) {
        UnderTerms x = new UnderTerms();
        x.whole(whole);
        return x;
    }

    private static void promise21KindAndWay() {
        EDGES.beyond("21: more(0, _, 0)", 0, 3, (x, kind) -> x.more(0, kind, 0), OUTSIDE);
        EDGES.beyond("21: more(0, 0, _)", 0, 2, (x, way) -> x.more(0, 0, way), OUTSIDE);
        EDGES.refused("21: more(0, 4, 3)", x -> x.more(0, 4, 3), OUTSIDE);
        for (int kind = 0; kind <= 3; kind++) {
            for (int way = 0; way <= 2; way++) {
                DUE.is("21: more(0, " + kind + ", " + way + ")", new UnderTerms().more(0, kind, way), 0);
            }
        }
    }

    private static void promise21UsedAlready() {
        for (int kind = 0; kind <= 3; kind++) {
            int k = kind;
            for (int p : new int[] {0, 4}) {
                EDGES.refusedOn("21: USED by KIND " + k, () -> using(p, k), x -> x.more(p, 0, 0), STATE);
                EDGES.refusedOn("21: USED by the same KIND " + k, () -> using(p, k), x -> x.more(p, k, 2), STATE);
            }
        }
        UnderTerms x = using(4, 0);
        x.uses(4, 3, 0);
        DUE.is("21: USED by another PIECE alone", x.more(3, 0, 0), 0);
        x.uses(5, 4, -1);
        DUE.is("21: not USED any more", x.more(4, 0, 0), 0);
    }

    private static UnderTerms using(int piece, int kind) {
        UnderTerms x = new UnderTerms();
        x.uses(5, piece, kind);
        return x;
    }

    private static void promise21OrderOfRefusals() {
        EDGES.refused("21: UNKNOWN ahead of OUTSIDE", x -> x.more(6, 4, 3), UNKNOWN);
        EDGES.refused("21: UNKNOWN ahead of OUTSIDE, below", x -> x.more(-1, -1, -1), UNKNOWN);
        EDGES.refused("21: UNKNOWN ahead of OUTSIDE, not below THE WHOLE", x -> x.more(5, 4, 0), UNKNOWN);
        EDGES.refusedOn("21: OUTSIDE ahead of STATE, KIND", () -> using(0, 0), x -> x.more(0, 4, 0), OUTSIDE);
        EDGES.refusedOn("21: OUTSIDE ahead of STATE, not", () -> using(0, 0), x -> x.more(0, -1, 0), OUTSIDE);
        EDGES.refusedOn("21: OUTSIDE ahead of STATE, WAY", () -> using(0, 0), x -> x.more(0, 0, 3), OUTSIDE);
        EDGES.refusedOn("21: UNKNOWN ahead of NONE", BoundsOfMoreTest::noneGood, x -> x.more(5, 0, 0), UNKNOWN);
        EDGES.refusedOn("21: OUTSIDE ahead of NONE", BoundsOfMoreTest::noneGood, x -> x.more(0, 0, -1), OUTSIDE);
        EDGES.refusedOn("21: STATE ahead of NONE", BoundsOfMoreTest::noneGood, x -> x.more(4, 0, 0), STATE);
    }

    /** THE WHOLE, under terms 0, USES 4, which lets it go under terms 1 alone. */
    private static UnderTerms noneGood() {
        UnderTerms x = using(4, 0);
        Calls.terms(x, 1, "n3:1");
        x.piece(4, 0, 2);
        return x;
    }

    private static void promise21NoneIsGood() {
        EDGES.changesNothing("21: as it is none is GOOD", BoundsOfMoreTest::noneGood, x -> x.more(0, 0, 0), NONE);
        UnderTerms x = noneGood();
        x.uses(5, 4, -1);
        DUE.is("21: as it is one is GOOD", x.good(), 1);
        for (int kind = 0; kind <= 3; kind++) {
            for (int way = 0; way <= 2; way++) {
                DUE.is("21: then none is GOOD", x.more(4, kind, way), NONE);
            }
        }
        DUE.is("21: one is GOOD still", x.good(), 1);
        Calls.terms(x, 1, "n2:1");
        DUE.is("21: then one is GOOD", x.more(4, 3, 0), 0);
        x.uses(4, 3, 0);
        x.uses(5, 3, 3);
        x.piece(4, 0, 1);
        x.piece(3, 0, 2);
        DUE.is("21: then what it USES bars", x.more(4, 2, 0), NONE);
        DUE.is("21: then what it USES does not REACH", x.more(4, 3, 0), 0);
    }

    private static void promise21NothingAndAll() {
        UnderTerms x = new UnderTerms();
        Calls.terms(x, 1, "nspac3");
        x.piece(4, 0, 2);
        x.piece(3, 0, 2);
        int[] all = {31, 22, 4};
        for (int way = 0; way <= 2; way++) {
            DUE.is("21: all, WAY " + way, x.more(4, 3, way), all[way]);
            DUE.is("21: nothing, WAY " + way, x.more(2, 3, way), 0);
        }
        x.uses(5, 3, 0);
        for (int way = 0; way <= 2; way++) {
            DUE.is("21: nothing that BEST must not do already", x.more(4, 0, way), 0);
        }
        Calls.terms(x, 2, "nsp3");
        x.piece(3, 0, 4);
        DUE.is("21: what is not among BEST's", x.more(4, 0, 0), 24);
        DUE.is("21: what is not among BEST's, served", x.more(4, 0, 1), 16);
        DUE.is("21: what is not among BEST's, at home", x.more(4, 0, 2), 0);
    }

    private static void promise21KindNoMoreThanReach() {
        for (int kind = 0; kind <= 3; kind++) {
            for (int reach = 0; reach <= 3; reach++) {
                UnderTerms x = new UnderTerms();
                Calls.terms(x, 0, "s" + reach);
                DUE.is("21: KIND " + kind + ", REACH " + reach, x.more(0, kind, 0), kind <= reach ? 2 : 0);
            }
        }
    }

    private static void promise21ChangesNothing() {
        UnderTerms x = new UnderTerms();
        x.uses(4, 3, 0);
        for (int p = 0; p < 5; p++) {
            x.more(p, p % 4, 0);
            DUE.is("21: PIECES", x.pieces(), 32);
            DUE.is("21: KIND", x.told(140 + p), NONE);
            DUE.is("21: GOOD", x.good(), 1);
        }
        DUE.is("21: MORE again", x.more(4, 0, 0), 0);
    }

    private static void namesAre(String when, UnderTerms x, int... owners) {
        DUE.is("22: " + when + ", how many", x.names(-1), owners.length);
        for (int i = 0; i < owners.length; i++) {
            DUE.is("22: " + when + ", " + i, x.names(i), owners[i]);
        }
        DUE.is("22: " + when + ", one more", x.names(owners.length), NONE);
    }

    /** All PIECES but THE WHOLE ask to name their owners; owners[p] are the bits of PIECE p's. */
    private static UnderTerms namedBy(int... owners) {
        UnderTerms x = new UnderTerms();
        Calls.terms(x, 0, "n0");
        for (int p = 0; p < owners.length; p++) {
            x.piece(p, 2, owners[p]);
            x.uses(5, p, 0);
        }
        return x;
    }

    private static void promise22NobodyIsNamed() {
        namesAre("a new object", new UnderTerms());
        namesAre("no PIECES", namedBy());
        namesAre("no OWNERS", namedBy(0, 0, 0, 0, 0));
        UnderTerms x = namedBy(63);
        x.uses(5, 0, 1);
        namesAre("it does not REACH", x);
        UnderTerms y = namedBy(63);
        Calls.terms(y, 0, "spac0");
        namesAre("none asks n", y);
    }

    private static void promise22OneAndSix() {
        for (int owner = 0; owner < 6; owner++) {
            namesAre("one, " + owner, namedBy(1 << owner), owner);
            namesAre("one of all PIECES, " + owner,
                namedBy(1 << owner, 1 << owner, 1 << owner, 1 << owner, 1 << owner), owner);
        }
        namesAre("six of one PIECE", namedBy(63), 0, 1, 2, 3, 4, 5);
        namesAre("six of all PIECES", namedBy(63, 63, 63, 63, 63), 0, 1, 2, 3, 4, 5);
    }

    private static void promise22MostFirstThenByNumber() {
        namesAre("the last has most", namedBy(63, 62, 60, 56, 48), 4, 5, 3, 2, 1, 0);
        namesAre("the last has one more", namedBy(63, 32), 5, 0, 1, 2, 3, 4);
        namesAre("the first has one more", namedBy(63, 1), 0, 1, 2, 3, 4, 5);
        namesAre("one that is between has none", namedBy(0b101101, 0b100000, 0b001000), 3, 5, 0, 2);
    }

    private static void promise22OtherNumbers() {
        UnderTerms x = namedBy(63);
        for (int i : new int[] {Integer.MIN_VALUE, Integer.MIN_VALUE + 1, -7, -6, -2, 6, 7, 63, Integer.MAX_VALUE}) {
            DUE.is("22: names(" + i + ")", x.names(i), NONE);
            EDGES.changesNothing("22: names(" + i + ")", () -> namedBy(63), y -> y.names(i), NONE);
            EDGES.changesNothing("22: names(" + i + ") of nobody", UnderTerms::new, y -> y.names(i), NONE);
        }
        EDGES.changesNothing("22: names(-1)", () -> namedBy(63), y -> y.names(-1), 6);
        EDGES.changesNothing("22: names(0)", () -> namedBy(63), y -> y.names(0), 0);
        EDGES.changesNothing("22: names(5)", () -> namedBy(63), y -> y.names(5), 5);
    }

    private static void promise22NoneIsGood() {
        for (int i : new int[] {Integer.MIN_VALUE, -2, -1, 0, 1, 5, Integer.MAX_VALUE}) {
            EDGES.changesNothing("22: none is GOOD, names(" + i + ")", BoundsOfMoreTest::noneGood,
                x -> x.names(i), NONE);
        }
        UnderTerms x = noneGood();
        x.piece(5, 0, 2);
        namesAre("some is GOOD", x, 0);
    }

    private static void promise22NotTheWholeItself() {
        UnderTerms x = namedBy(2);
        x.piece(5, 2, 61);
        x.piece(4, 2, 61);
        namesAre("neither its own OWNERS nor those of others", x, 1);
        x.whole(0);
        namesAre("a WHOLE that USES nothing", x);
    }

    /** The first terms would be BEST under the other WAYS, the second under WAY 0. */
    private static void promise22ByBestUnderWay0() {
        UnderTerms x = namedBy(4);
        x.piece(0, 0, 3);
        Calls.terms(x, 0, "a0");
        Calls.terms(x, 1, "n0");
        DUE.is("22: BEST under WAY 1", x.best(1, 0), 0);
        DUE.is("22: BEST under WAY 2", x.best(2, 0), 0);
        namesAre("BEST under WAY 0 asks n", x, 2);
        Calls.terms(x, 0, "ns0");
        Calls.terms(x, 1, "p0");
        DUE.is("22: BEST kept at home", x.best(2, 0), 0);
        namesAre("BEST under WAY 0 asks no n", x);
    }

    private static void promise23PieceAndWhat() {
        for (int what = 0; what <= 1; what++) {
            int w = what;
            EDGES.beyond("23: audit(_, " + w + ")", 0, 5, (x, p) -> x.audit(p, w), UNKNOWN);
        }
        for (int p = 0; p <= 5; p++) {
            int piece = p;
            EDGES.beyond("23: audit(" + p + ", _)", 0, 1, (x, what) -> x.audit(piece, what), OUTSIDE);
        }
        EDGES.refused("23: UNKNOWN ahead of OUTSIDE", x -> x.audit(6, 2), UNKNOWN);
        EDGES.refused("23: UNKNOWN ahead of OUTSIDE, below", x -> x.audit(-1, -1), UNKNOWN);
        EDGES.changesNothing("23: the longest way", Edges::filled, x -> x.audit(0, 0), 4);
        EDGES.changesNothing("23: how many ways", Edges::filled, x -> x.audit(0, 1), 8);
    }

    private static void promise23TheWholeItself() {
        for (int whole = 0; whole < 6; whole++) {
            for (int kind = -1; kind <= 3; kind++) {
                UnderTerms x = everyUse(kind);
                x.whole(whole);
                DUE.is("23: THE WHOLE itself, the longest way", x.audit(whole, 0), 0);
                DUE.is("23: THE WHOLE itself, how many ways", x.audit(whole, 1), 1);
            }
        }
    }

    private static UnderTerms everyUse(int kind) {
        UnderTerms x = new UnderTerms();
        for (int p = 1; p < 6; p++) {
            for (int other = 0; other < p; other++) {
                x.uses(p, other, kind);
            }
        }
        return x;
    }

    private static void promise23NotOfTheWhole() {
        for (int whole = 0; whole < 6; whole++) {
            UnderTerms x = everyUse(0);
            x.whole(whole);
            for (int other = 0; other < whole; other++) {
                x.uses(whole, other, -1);
            }
            for (int p = 0; p < 6; p++) {
                if (p != whole) {
                    DUE.is("23: " + p + " is not of " + whole + ", longest", x.audit(p, 0), NONE);
                    DUE.is("23: " + p + " is not of " + whole + ", ways", x.audit(p, 1), NONE);
                }
            }
        }
        EDGES.refusedOn("23: OUTSIDE ahead of NONE", UnderTerms::new, x -> x.audit(0, 2), OUTSIDE);
        EDGES.refusedOn("23: OUTSIDE ahead of NONE, below", UnderTerms::new, x -> x.audit(0, -1), OUTSIDE);
    }

    private static void promise23LongestAndMost() {
        for (int whole = 1; whole < 6; whole++) {
            UnderTerms x = everyUse(3);
            x.whole(whole);
            for (int p = 0; p < whole; p++) {
                DUE.is("23: longest from " + whole + " to " + p, x.audit(p, 0), whole - p);
                DUE.is("23: ways from " + whole + " to " + p, x.audit(p, 1), 1 << whole - p - 1);
            }
        }
        UnderTerms x = new UnderTerms();
        x.uses(5, 0, 3);
        DUE.is("23: one use", x.audit(0, 0) * 10 + x.audit(0, 1), 11);
        x.uses(5, 4, 0);
        x.uses(4, 0, 0);
        DUE.is("23: two ways, one is longer", x.audit(0, 0) * 10 + x.audit(0, 1), 22);
        x.uses(5, 0, -1);
        DUE.is("23: the longer one alone", x.audit(0, 0) * 10 + x.audit(0, 1), 21);
        x.uses(5, 0, 2);
        x.uses(4, 0, -1);
        DUE.is("23: the shorter one alone", x.audit(0, 0) * 10 + x.audit(0, 1), 11);
        x.uses(5, 0, -1);
        DUE.is("23: none any more", x.audit(0, 1), NONE);
    }

    private static void promise23WaysFromTheWholeAlone() {
        UnderTerms x = new UnderTerms();
        for (int p = 1; p < 5; p++) {
            x.uses(p, p - 1, 0);
        }
        x.uses(5, 0, 0);
        DUE.is("23: a chain that THE WHOLE does not USE", x.audit(0, 0) * 10 + x.audit(0, 1), 11);
        x.uses(5, 2, 0);
        DUE.is("23: a part of it", x.audit(0, 0) * 10 + x.audit(0, 1), 32);
        x.uses(5, 4, 0);
        DUE.is("23: all of it", x.audit(0, 0) * 10 + x.audit(0, 1), 53);
        x.whole(3);
        DUE.is("23: from a lower WHOLE", x.audit(0, 0) * 10 + x.audit(0, 1), 31);
    }

    private static void promise24Images0And1() {
        EDGES.beyond("24: image(_)", 0, 1, UnderTerms::image, OUTSIDE);
        for (int n = 0; n < 2; n++) {
            UnderTerms x = new UnderTerms();
            DUE.is("24: image(" + n + ")", x.image(n), 1);
            DUE.is("24: it is kept", x.restore(n), 1);
            DUE.is("24: the other is not", x.restore(1 - n), STATE);
            DUE.is("24: the other, too", x.image(1 - n), 1);
            DUE.is("24: then it is", x.restore(1 - n), 1);
        }
    }

    /** Wipes all that can be told but signs: another state than filled in every number. */
    private static void changeAll(UnderTerms x) {
        x.wipe();
        for (int t = 0; t < 5; t++) {
            Calls.say(x, "2");
            x.terms(t);
            x.later(t, t == 0 ? 4 : -1);
        }
        for (int p = 0; p < 6; p++) {
            x.piece(p, 0, 2);
            x.piece(p, 1, 0);
            x.piece(p, 2, 0);
            x.piece(p, 3, 1);
            for (int other = 0; other < p; other++) {
                x.uses(p, other, (p + other + 2) % 4);
            }
        }
        x.whole(0);
        x.coin(0);
    }

    private static void promise24AllButSigns() {
        for (int n = 0; n < 2; n++) {
            UnderTerms x = Edges.filled();
            String before = Calls.state(x);
            x.image(n);
            DUE.same("24: keeping changes nothing", Calls.state(x), before);
            changeAll(x);
            x.restore(n);
            DUE.is("24: signs are not kept", x.told(0), 0);
            Calls.say(x, "nspac2:01234!~!~!~!~");
            DUE.same("24: all else is", Calls.state(x), before);
        }
    }

    private static void promise24KeptAnew() {
        UnderTerms x = new UnderTerms();
        for (int v = 0; v < 3; v++) {
            x.coin(v);
            DUE.is("24: kept anew", x.image(0), 1);
            x.coin(50);
            x.restore(0);
            DUE.is("24: the last one is kept", x.told(2), v);
        }
        x.image(2);
        x.image(-1);
        x.coin(60);
        x.restore(0);
        DUE.is("24: what is refused keeps nothing", x.told(2), 2);
        DUE.is("24: nor in the other", x.restore(1), STATE);
    }

    private static void promise24KeptAndGone() {
        UnderTerms x = new UnderTerms();
        x.image(0);
        x.coin(1);
        x.image(1);
        x.restore(0);
        DUE.is("24: the other IMAGE stays kept", x.restore(1), 1);
        DUE.is("24: as it was", x.told(2), 1);
        x.restore(0);
        DUE.is("24: the first as it was", x.told(2), 5);
    }

    private static void promise25Images0And1() {
        EDGES.beyond("25: restore(_)", 0, 1, UnderTerms::restore, OUTSIDE);
        UnderTerms x = Edges.filled();
        DUE.is("25: restore(0)", x.restore(0), 1);
        DUE.is("25: LOOSER coin of IMAGE 0", x.told(2), 99);
        DUE.is("25: THE WHOLE of IMAGE 0", x.told(1), 3);
        DUE.is("25: restore(1)", x.restore(1), 1);
        DUE.is("25: LOOSER coin of IMAGE 1", x.told(2), 98);
        DUE.is("25: THE WHOLE of IMAGE 1", x.told(1), 2);
        DUE.is("25: LATER of IMAGE 1", x.about(2, 3), NONE);
        DUE.is("25: a use of IMAGE 1", x.told(144), NONE);
    }

    private static void promise25ItWasNotKept() {
        for (int n = 0; n < 2; n++) {
            int not = n;
            EDGES.refusedOn("25: restore(" + n + "), none is kept", UnderTerms::new, x -> x.restore(not), STATE);
            EDGES.refusedOn("25: restore(" + n + "), the other is kept", () -> changedBehindImage(1 - not),
                x -> x.restore(not), STATE);
        }
        EDGES.refusedOn("25: OUTSIDE ahead of STATE", UnderTerms::new, x -> x.restore(2), OUTSIDE);
        EDGES.refusedOn("25: OUTSIDE ahead of STATE, below", UnderTerms::new, x -> x.restore(-1), OUTSIDE);
    }

    private static UnderTerms changedBehindImage(int n) {
        UnderTerms x = new UnderTerms();
        x.image(n);
        changeAll(x);
        Calls.say(x, "n0");
        return x;
    }

    private static void promise25SignsStay() {
        UnderTerms x = Edges.filled();
        x.restore(0);
        DUE.is("25: a full PAD is full still", x.say('n'), FULL);
        DUE.is("25: its FAULT", x.fault(), 12);
        DUE.is("25: its signs", x.wipe(), 20);
        x.restore(1);
        DUE.is("25: an empty PAD is empty still", x.told(0), 0);
        UnderTerms y = Edges.ready();
        y.restore(0);
        DUE.is("25: a text is there still", y.terms(4), 6);
        DUE.is("25: its REACH", y.about(4, 1), 1);
    }

    private static void promise25AsOftenAsAsked() {
        UnderTerms x = changedBehindImage(0);
        for (int n = 0; n < 3; n++) {
            DUE.is("25: restore again", x.restore(0), 1);
            DUE.is("25: THE WHOLE", x.told(1), 5);
            DUE.is("25: REACH of 0", x.about(0, 1), 3);
            DUE.is("25: 5 USES 4", x.told(144), NONE);
            x.whole(n);
            x.uses(5, 4, n);
            x.wipe();
            Calls.say(x, "n1");
            x.terms(0);
        }
        DUE.is("25: an IMAGE of what was restored", x.image(1), 1);
        x.restore(0);
        x.restore(1);
        DUE.is("25: as it was kept", x.told(1), 2);
    }

    private static int toldOfFilled(int what) {
        int[] first = {20, 4, 97};
        if (what >= 0 && what <= 2) {
            return first[what];
        }
        for (int p = 0; p < 6; p++) {
            if (what == 10 + p) {
                return p == 5 ? 8 : 31 - p;
            }
            if (what == 20 + p) {
                return 63 - p;
            }
            if (what == 30 + p) {
                return 999 - p;
            }
            if (what == 40 + p) {
                return 1;
            }
            for (int other = 0; other < 6; other++) {
                if (what == 100 + 8 * p + other) {
                    return other >= p ? NONE : p == 5 && other == 4 ? 3 : (p + other) % 4;
                }
            }
        }
        return OUTSIDE;
    }

    private static void promise26EveryNumber() {
        UnderTerms x = Edges.filled();
        for (int what = -60; what <= 220; what++) {
            DUE.is("26: told(" + what + ")", x.told(what), toldOfFilled(what));
        }
        int[] outside = {-1, 3, 9, 16, 19, 26, 29, 36, 39, 46, 50, 99, 106, 107, 114, 115, 146, 147, 148, 155,
            Integer.MIN_VALUE, Integer.MAX_VALUE};
        for (int what : outside) {
            EDGES.refused("26: told(" + what + ")", y -> y.told(what), OUTSIDE);
        }
        for (int what : new int[] {0, 1, 2, 10, 15, 20, 25, 30, 35, 40, 45, 108, 140, 144}) {
            EDGES.changesNothing("26: told(" + what + ")", Edges::filled, y -> y.told(what), toldOfFilled(what));
        }
    }

    private static void promise26EmptyAndFull() {
        UnderTerms x = new UnderTerms();
        DUE.is("26: no signs", x.told(0), 0);
        for (int n = 1; n <= 20; n++) {
            x.say('!');
            DUE.is("26: signs " + n, x.told(0), n);
        }
        x.say('!');
        DUE.is("26: no more signs", x.told(0), 20);
        DUE.is("26: no KIND", x.told(144), NONE);
        x.uses(5, 4, 0);
        DUE.is("26: KIND 0", x.told(144), 0);
        DUE.is("26: the first use", x.told(108), NONE);
        x.uses(1, 0, 3);
        DUE.is("26: KIND 3 of the first use", x.told(108), 3);
    }
}
