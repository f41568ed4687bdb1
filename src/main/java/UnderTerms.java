/**
 * Under whose terms a program of many pieces may go, and what it must do for that.
 * The words in capitals are those of the document.
 */
public final class UnderTerms {
    public static final int NONE = -6, UNKNOWN = -1, OUTSIDE = -2, STATE = -3, FULL = -4, NO = -5;

    private static final int TERMS_IN_ALL = 5;
    private static final int ALL_TERMS = 31;
    private static final int PIECES_IN_ALL = 6;
    private static final int ALL_PIECES = 63;
    private static final int OWNERS_IN_ALL = 6;
    private static final int ALL_OWNERS = 63;
    private static final int LAST_KIND = 3;
    private static final int LAST_WAY = 2;
    private static final int ALL_ASKS = 31;
    private static final int ASK_NAME = 1;
    private static final int ASK_SOURCE = 2;
    private static final int ASK_PEACE = 4;
    private static final int ASK_NOTICE = 8;
    private static final int ASK_NO_COIN = 16;
    private static final int DEAREST_ANEW = 999;
    private static final int DEAREST_STEP = 99;
    private static final int MOST_CHOSEN = 999999;
    private static final int IMAGES_IN_ALL = 2;

    private final Pad pad;
    private final Web web;
    private final Book book;
    private final Chosen taken;
    private final Book[] images;
    private final boolean[] kept;
    private final int[] named;

    public UnderTerms() {
        pad = new Pad();
        web = new Web();
        book = web.book;
        taken = new Chosen();
        images = new Book[IMAGES_IN_ALL];
        for (int n = 0; n < IMAGES_IN_ALL; n++) {
            images[n] = new Book();
        }
        kept = new boolean[IMAGES_IN_ALL];
        named = new int[OWNERS_IN_ALL];
    }

    // ---- 1 terms, pieces

    public int say(int sign) {
        if (!within(sign, Pad.FIRST_SIGN, Pad.LAST_SIGN)) {
            return OUTSIDE;
        }
        if (pad.count >= Pad.ROOM) {
            return FULL;
        }
        pad.put(sign);
        return pad.count;
    }

    public int wipe() {
        int were = pad.count;
        pad.count = 0;
        return were;
    }

    public int fault() {
        return pad.read();
    }

    public int terms(int t) {
        if (!isTerms(t)) {
            return UNKNOWN;
        }
        if (pad.read() != NONE) {
            return NO;
        }
        book.asks[t] = pad.asks;
        book.reach[t] = pad.reach;
        book.go[t] = pad.go;
        pad.count = 0;
        return book.asks[t];
    }

    public int about(int t, int what) {
        if (!isTerms(t)) {
            return UNKNOWN;
        }
        switch (what) {
            case 0: return book.asks[t];
            case 1: return book.reach[t];
            case 2: return book.go[t];
            case 3: return book.later[t];
            default: return OUTSIDE;
        }
    }

    public int later(int t, int v) {
        if (!isTerms(t)) {
            return UNKNOWN;
        }
        if (!within(v, -1, TERMS_IN_ALL - 1) || v == t) {
            return OUTSIDE;
        }
        int was = book.later[t];
        book.later[t] = v == -1 ? NONE : v;
        return was;
    }

    public int piece(int piece, int what, int v) {
        if (!isPiece(piece)) {
            return UNKNOWN;
        }
        switch (what) {
            case 0: return within(v, 1, ALL_TERMS) ? swap(book.offered, piece, v) : OUTSIDE;
            case 1: return within(v, 0, 1) ? swap(book.orLater, piece, v) : OUTSIDE;
            case 2: return within(v, 0, ALL_OWNERS) ? swap(book.owners, piece, v) : OUTSIDE;
            case 3: return within(v, 0, DEAREST_ANEW) ? swap(book.anew, piece, v) : OUTSIDE;
            default: return OUTSIDE;
        }
    }

    public int uses(int piece, int other, int kind) {
        if (!isPiece(piece) || !within(other, 0, piece - 1)) {
            return UNKNOWN;
        }
        if (!within(kind, -1, LAST_KIND)) {
            return OUTSIDE;
        }
        return swap(book.kinds, use(piece, other), kind == -1 ? NONE : kind);
    }

    public int choices(int piece) {
        return isPiece(piece) ? book.choicesOf(piece) : UNKNOWN;
    }

    public int whole(int piece) {
        if (!isPiece(piece)) {
            return UNKNOWN;
        }
        int was = book.whole;
        book.whole = piece;
        return was;
    }

    public int coin(int v) {
        if (!within(v, 0, DEAREST_STEP)) {
            return OUTSIDE;
        }
        int was = book.coin;
        book.coin = v;
        return was;
    }

    // ---- 2 what reaches the whole

    public int pieces() {
        web.spin();
        return web.members;
    }

    public int by(int chosen, int what) {
        if (!within(chosen, 0, MOST_CHOSEN) || !within(what, 0, 4)) {
            return OUTSIDE;
        }
        web.spin();
        if (!takeDigits(chosen)) {
            return OUTSIDE;
        }
        switch (what) {
            case 0: return web.reachingBy(taken.terms);
            case 4: return web.mayGoBy(taken.terms);
            default: return web.mustsBy(taken.terms, what - 1);
        }
    }

    public int best(int way, int piece) {
        if (!within(piece, -2, PIECES_IN_ALL - 1)) {
            return UNKNOWN;
        }
        if (!within(way, 0, LAST_WAY)) {
            return OUTSIDE;
        }
        web.spin();
        if (!web.findBest(way, taken)) {
            return NONE;
        }
        if (piece == -2) {
            return taken.mayGo;
        }
        if (piece == -1) {
            return taken.musts;
        }
        return has(web.parts, piece) ? taken.terms[piece] : NONE;
    }

    public int good() {
        web.spin();
        return web.countGood();
    }

    // ---- 3 what bars, mending

    public int bar() {
        web.spin();
        if (web.someGoodWith(web.parts)) {
            return STATE;
        }
        return fewestBarring();
    }

    public int anew(int what) {
        if (!within(what, 0, 1)) {
            return OUTSIDE;
        }
        web.spin();
        int set = cheapestAnew();
        return what == 0 ? set : costOf(set);
    }

    public int looser(int what) {
        if (!within(what, 0, 1)) {
            return OUTSIDE;
        }
        web.spin();
        if (web.someGoodWith(web.parts)) {
            return 0;
        }
        return cheapestLooser(what);
    }

    public int agree(int t, int anew) {
        if (!isTerms(t)) {
            return UNKNOWN;
        }
        if (!within(anew, 0, ALL_PIECES)) {
            return OUTSIDE;
        }
        web.spin();
        int asked = web.members & ~anew;
        int owners = 0;
        for (int p = 0; p < PIECES_IN_ALL; p++) {
            if (has(asked, p) && !has(web.choices[p], t)) {
                owners |= book.owners[p];
            }
        }
        return owners;
    }

    // ---- 4 more, names, ways

    public int more(int piece, int kind, int way) {
        if (!within(piece, 0, book.whole - 1)) {
            return UNKNOWN;
        }
        if (!within(kind, 0, LAST_KIND) || !within(way, 0, LAST_WAY)) {
            return OUTSIDE;
        }
        if (book.kinds[use(book.whole, piece)] != NONE) {
            return STATE;
        }
        web.spin();
        if (!web.findBest(way, taken)) {
            return NONE;
        }
        int before = taken.musts;
        web.tie(piece, kind);
        return web.findBest(way, taken) ? taken.musts & ~before : NONE;
    }

    public int names(int i) {
        web.spin();
        if (!web.findBest(0, taken)) {
            return NONE;
        }
        countNamed();
        return i == -1 ? namedInAll() : namedAt(i);
    }

    public int audit(int piece, int what) {
        if (!isPiece(piece)) {
            return UNKNOWN;
        }
        if (!within(what, 0, 1)) {
            return OUTSIDE;
        }
        web.spin();
        if (!has(web.members, piece)) {
            return NONE;
        }
        web.walk();
        return what == 0 ? web.longest[piece] : web.ways[piece];
    }

    public int image(int n) {
        if (!within(n, 0, IMAGES_IN_ALL - 1)) {
            return OUTSIDE;
        }
        images[n].takeFrom(book);
        kept[n] = true;
        return 1;
    }

    public int restore(int n) {
        if (!within(n, 0, IMAGES_IN_ALL - 1)) {
            return OUTSIDE;
        }
        if (!kept[n]) {
            return STATE;
        }
        book.takeFrom(images[n]);
        return 1;
    }

    public int told(int what) {
        if (what >= 100) {
            return toldKind(what - 100);
        }
        if (what >= 10) {
            return toldPiece(what / 10, what % 10);
        }
        switch (what) {
            case 0: return pad.count;
            case 1: return book.whole;
            case 2: return book.coin;
            default: return OUTSIDE;
        }
    }

    // ---- what the calls above share

    private static boolean within(int v, int least, int most) {
        return v >= least && v <= most;
    }

    private static boolean isTerms(int t) {
        return within(t, 0, TERMS_IN_ALL - 1);
    }

    private static boolean isPiece(int piece) {
        return within(piece, 0, PIECES_IN_ALL - 1);
    }

    private static boolean has(int bits, int place) {
        return (bits >> place & 1) != 0;
    }

    private static boolean isPartOf(int bits, int all) {
        return (bits & ~all) == 0;
    }

    /** Where the KIND of one PIECE's use of another stands in a row of KINDS. */
    private static int use(int piece, int other) {
        return piece * PIECES_IN_ALL + other;
    }

    private static int swap(int[] row, int at, int v) {
        int was = row[at];
        row[at] = v;
        return was;
    }

    /** The digits of a number become the CHOSEN; false: they are none of THE WHOLE. */
    private boolean takeDigits(int number) {
        int left = number;
        for (int p = 0; p < PIECES_IN_ALL; p++) {
            int digit = left % 10;
            left = left / 10;
            int allowed = has(web.parts, p) ? web.choices[p] : 1;
            if (!has(allowed, digit)) {
                return false;
            }
            taken.terms[p] = digit;
        }
        return true;
    }

    private int fewestBarring() {
        int fewest = web.parts;
        // Sets come with rising bits, so the first of as many PIECES is the least.
        for (int set = 0; set <= ALL_PIECES; set++) {
            boolean fewer = Integer.bitCount(set) < Integer.bitCount(fewest);
            if (fewer && isPartOf(set, web.parts) && !web.someGoodWith(set)) {
                fewest = set;
            }
        }
        return fewest;
    }

    private int cheapestAnew() {
        int cheapest = web.parts;
        for (int set = 0; set <= ALL_PIECES; set++) {
            if (isPartOf(set, web.parts) && isCheaper(set, cheapest) && web.someGoodWith(web.parts & ~set)) {
                cheapest = set;
            }
        }
        return cheapest;
    }

    private boolean isCheaper(int set, int other) {
        int cost = costOf(set);
        int otherCost = costOf(other);
        if (cost != otherCost) {
            return cost < otherCost;
        }
        return Integer.bitCount(set) < Integer.bitCount(other);
    }

    private int costOf(int set) {
        int cost = 0;
        for (int p = 0; p < PIECES_IN_ALL; p++) {
            if (has(set, p)) {
                cost += book.anew[p];
            }
        }
        return cost;
    }

    private int cheapestLooser(int what) {
        int pair = NONE;
        int least = NONE;
        for (int from = 0; from < LAST_KIND; from++) {
            for (int to = from + 1; to <= LAST_KIND; to++) {
                web.spin();
                int changed = web.loosen(from, to);
                int cost = (to - from) * book.coin * changed;
                if ((least == NONE || cost < least) && web.someGoodWith(web.parts)) {
                    least = cost;
                    pair = 10 * from + to;
                }
            }
        }
        return what == 0 ? pair : least;
    }

    /** How many PIECES of each OWNER must be named by the CHOSEN. */
    private void countNamed() {
        int reaching = web.reachingBy(taken.terms);
        for (int owner = 0; owner < OWNERS_IN_ALL; owner++) {
            named[owner] = 0;
            for (int p = 0; p < PIECES_IN_ALL; p++) {
                boolean asks = has(reaching, p) && (book.asks[taken.terms[p]] & ASK_NAME) != 0;
                if (asks && has(book.owners[p], owner)) {
                    named[owner]++;
                }
            }
        }
    }

    private int namedInAll() {
        int all = 0;
        for (int owner = 0; owner < OWNERS_IN_ALL; owner++) {
            if (named[owner] > 0) {
                all++;
            }
        }
        return all;
    }

    private int namedAt(int i) {
        for (int owner = 0; owner < OWNERS_IN_ALL; owner++) {
            if (named[owner] > 0 && namedAhead(owner) == i) {
                return owner;
            }
        }
        return NONE;
    }

    private int namedAhead(int owner) {
        int ahead = 0;
        for (int o = 0; o < OWNERS_IN_ALL; o++) {
            if (named[o] > named[owner] || named[o] == named[owner] && o < owner) {
                ahead++;
            }
        }
        return ahead;
    }

    private int toldKind(int place) {
        int piece = place / 8;
        int other = place % 8;
        return isPiece(piece) && isPiece(other) ? book.kinds[use(piece, other)] : OUTSIDE;
    }

    private int toldPiece(int tens, int piece) {
        if (!isPiece(piece)) {
            return OUTSIDE;
        }
        switch (tens) {
            case 1: return book.offered[piece];
            case 2: return book.owners[piece];
            case 3: return book.anew[piece];
            case 4: return book.orLater[piece];
            default: return OUTSIDE;
        }
    }

    /** The PAD, and what its SIGNS say when they are read. */
    private static final class Pad {
        static final int FIRST_SIGN = 33;
        static final int LAST_SIGN = 126;
        static final int ROOM = 20;

        final int[] signs = new int[ROOM];
        int count = 0;
        int asks = 0;
        int reach = 0;
        int go = 0;

        void put(int sign) {
            if (count < ROOM) {
                signs[count] = sign;
                count++;
            }
        }

        /** Reads asks, reach and go; answers THE FAULT or NONE. */
        int read() {
            int at = readAsks();
            if (at >= count || !within(signs[at], '0', '3')) {
                return at;
            }
            reach = signs[at] - '0';
            at++;
            if (at >= count) {
                go = ALL_TERMS;
                return NONE;
            }
            return signs[at] == ':' ? readGo(at + 1) : at;
        }

        /** Answers the place behind the last letter that can stand. */
        private int readAsks() {
            asks = 0;
            for (int at = 0; at < count; at++) {
                int ask = askOf(signs[at]);
                if (ask == 0 || (asks & ask) != 0) {
                    return at;
                }
                asks |= ask;
            }
            return count;
        }

        private int readGo(int from) {
            go = 0;
            for (int at = from; at < count; at++) {
                int t = signs[at] - '0';
                // What is left of go above t tells that a digit as great came ahead.
                if (!isTerms(t) || go >> t != 0) {
                    return at;
                }
                go |= 1 << t;
            }
            return go == 0 ? count : NONE;
        }

        private static int askOf(int sign) {
            switch (sign) {
                case 'n': return ASK_NAME;
                case 's': return ASK_SOURCE;
                case 'p': return ASK_PEACE;
                case 'a': return ASK_NOTICE;
                case 'c': return ASK_NO_COIN;
                default: return 0;
            }
        }
    }

    /** All that an IMAGE keeps. NONE stands for no LATER ones and for no use. */
    private static final class Book {
        final int[] asks = new int[TERMS_IN_ALL];
        final int[] reach = new int[TERMS_IN_ALL];
        final int[] go = new int[TERMS_IN_ALL];
        final int[] later = new int[TERMS_IN_ALL];
        final int[] offered = new int[PIECES_IN_ALL];
        final int[] orLater = new int[PIECES_IN_ALL];
        final int[] owners = new int[PIECES_IN_ALL];
        final int[] anew = new int[PIECES_IN_ALL];
        final int[] kinds = new int[PIECES_IN_ALL * PIECES_IN_ALL];
        int whole = 5;
        int coin = 5;

        Book() {
            for (int t = 0; t < TERMS_IN_ALL; t++) {
                reach[t] = LAST_KIND;
                go[t] = ALL_TERMS;
                later[t] = NONE;
            }
            for (int p = 0; p < PIECES_IN_ALL; p++) {
                offered[p] = 1;
                owners[p] = 1;
                anew[p] = 10;
            }
            for (int u = 0; u < PIECES_IN_ALL * PIECES_IN_ALL; u++) {
                kinds[u] = NONE;
            }
        }

        void takeFrom(Book other) {
            System.arraycopy(other.asks, 0, asks, 0, TERMS_IN_ALL);
            System.arraycopy(other.reach, 0, reach, 0, TERMS_IN_ALL);
            System.arraycopy(other.go, 0, go, 0, TERMS_IN_ALL);
            System.arraycopy(other.later, 0, later, 0, TERMS_IN_ALL);
            System.arraycopy(other.offered, 0, offered, 0, PIECES_IN_ALL);
            System.arraycopy(other.orLater, 0, orLater, 0, PIECES_IN_ALL);
            System.arraycopy(other.owners, 0, owners, 0, PIECES_IN_ALL);
            System.arraycopy(other.anew, 0, anew, 0, PIECES_IN_ALL);
            System.arraycopy(other.kinds, 0, kinds, 0, PIECES_IN_ALL * PIECES_IN_ALL);
            whole = other.whole;
            coin = other.coin;
        }

        int choicesOf(int piece) {
            int bits = offered[piece];
            if (orLater[piece] == 0) {
                return bits;
            }
            // LATER ones may go round in a ring; a chain of different TERMS has no more steps than there are TERMS.
            for (int step = 0; step < TERMS_IN_ALL; step++) {
                for (int t = 0; t < TERMS_IN_ALL; t++) {
                    if (has(bits, t) && later[t] != NONE) {
                        bits |= 1 << later[t];
                    }
                }
            }
            return bits;
        }
    }

    /** A CHOSEN: TERMS of each PIECE; musts and mayGo are set where it is found as BEST. */
    private static final class Chosen {
        final int[] terms = new int[PIECES_IN_ALL];
        int musts = 0;
        int mayGo = 0;
    }

    /** THE WHOLE with its USES as the book has them, or as they would be with other ones. */
    private static final class Web {
        final Book book = new Book();
        final int[] choices = new int[PIECES_IN_ALL];
        final int[] longest = new int[PIECES_IN_ALL];
        final int[] ways = new int[PIECES_IN_ALL];
        int members = 0;
        /** PIECES of THE WHOLE but itself. */
        int parts = 0;
        private final int[] kinds = new int[PIECES_IN_ALL * PIECES_IN_ALL];
        /** By PIECE and TERMS: where it lets a whole GO, and its ASKS: all and none, if it does not REACH. */
        private final int[] goes = new int[PIECES_IN_ALL * TERMS_IN_ALL];
        private final int[] asks = new int[PIECES_IN_ALL * TERMS_IN_ALL];
        /** By REACH: the PIECES to which a way goes whose KINDS are no more than it. */
        private final int[] reached = new int[LAST_KIND + 1];
        /** By PIECE: TERMS under which it lets a whole GO by what it may still choose. */
        private final int[] lets = new int[PIECES_IN_ALL];
        /** By MAY GO: how many CHOSEN have it. */
        private int[] counts = new int[ALL_TERMS + 1];
        private int[] nextCounts = new int[ALL_TERMS + 1];

        /** As the book has it. */
        void spin() {
            System.arraycopy(book.kinds, 0, kinds, 0, PIECES_IN_ALL * PIECES_IN_ALL);
            for (int p = 0; p < PIECES_IN_ALL; p++) {
                choices[p] = book.choicesOf(p);
            }
            spread();
        }

        /** THE WHOLE uses one PIECE more. */
        void tie(int piece, int kind) {
            kinds[use(book.whole, piece)] = kind;
            spread();
        }

        /** All USES by PIECES of THE WHOLE of one KIND become another: how many. */
        int loosen(int from, int to) {
            int changed = 0;
            for (int p = 0; p < PIECES_IN_ALL; p++) {
                for (int other = 0; other < p; other++) {
                    if (has(members, p) && kinds[use(p, other)] == from) {
                        kinds[use(p, other)] = to;
                        changed++;
                    }
                }
            }
            spread();
            return changed;
        }

        private void spread() {
            for (int reach = 0; reach <= LAST_KIND; reach++) {
                reached[reach] = reachedBy(reach);
            }
            members = reached[LAST_KIND];
            parts = members & ~(1 << book.whole);
            for (int p = 0; p < PIECES_IN_ALL; p++) {
                for (int t = 0; t < TERMS_IN_ALL; t++) {
                    boolean reaches = reaches(p, t);
                    goes[offer(p, t)] = reaches ? book.go[t] : ALL_TERMS;
                    asks[offer(p, t)] = reaches ? book.asks[t] : 0;
                }
            }
        }

        private int reachedBy(int reach) {
            int found = 1 << book.whole;
            // USES go to lower numbers alone, so one pass downwards finds all.
            for (int p = book.whole; p > 0; p--) {
                for (int other = 0; other < p; other++) {
                    if (has(found, p) && within(kinds[use(p, other)], 0, reach)) {
                        found |= 1 << other;
                    }
                }
            }
            return found;
        }

        private boolean reaches(int piece, int t) {
            return has(parts & reached[book.reach[t]], piece);
        }

        /** Where a PIECE under TERMS stands in goes and asks. */
        private static int offer(int piece, int t) {
            return piece * TERMS_IN_ALL + t;
        }

        private static int askedBy(int way) {
            switch (way) {
                case 0: return ALL_ASKS;
                case 1: return ASK_PEACE | ASK_NO_COIN | ASK_SOURCE;
                default: return ASK_PEACE;
            }
        }

        int reachingBy(int[] terms) {
            int reaching = 0;
            for (int p = 0; p < PIECES_IN_ALL; p++) {
                if (reaches(p, terms[p])) {
                    reaching |= 1 << p;
                }
            }
            return reaching;
        }

        int mustsBy(int[] terms, int way) {
            int musts = 0;
            for (int p = 0; p < PIECES_IN_ALL; p++) {
                musts |= asks[offer(p, terms[p])];
            }
            return musts & askedBy(way);
        }

        int mayGoBy(int[] terms) {
            int left = choices[book.whole];
            for (int p = 0; p < PIECES_IN_ALL; p++) {
                left &= goes[offer(p, terms[p])];
            }
            return left;
        }

        /** Whether some CHOSEN is GOOD, if PIECES out of the set REACH nothing. */
        boolean someGoodWith(int set) {
            return room(set, ALL_ASKS) != 0;
        }

        /**
         * TERMS under which THE WHOLE may go by some CHOSEN of a set, if no PIECE may ask what is not borne.
         * Each PIECE chooses for itself, so under given TERMS all can go if each one can: no CHOSEN need be tried.
         */
        private int room(int set, int borne) {
            for (int p = 0; p < PIECES_IN_ALL; p++) {
                lets[p] = has(set, p) ? letsOf(p, borne) : ALL_TERMS;
            }
            return roomLeft();
        }

        private int letsOf(int piece, int borne) {
            int go = 0;
            for (int t = 0; t < TERMS_IN_ALL; t++) {
                if (mayChoose(piece, t, borne)) {
                    go |= goes[offer(piece, t)];
                }
            }
            return go;
        }

        private boolean mayChoose(int piece, int t, int borne) {
            return has(choices[piece], t) && isPartOf(asks[offer(piece, t)], borne);
        }

        private int roomLeft() {
            int left = choices[book.whole];
            for (int p = 0; p < PIECES_IN_ALL; p++) {
                left &= lets[p];
            }
            return left;
        }

        /** BEST is put into found; false: no CHOSEN is GOOD. */
        boolean findBest(int way, Chosen found) {
            // What the WAY does not ask for is borne for nothing.
            int free = ALL_ASKS & ~askedBy(way);
            int musts = leastMusts(free);
            if (musts == NONE || room(parts, musts | free) == 0) {
                return false;
            }
            found.musts = musts;
            for (int p = 0; p < PIECES_IN_ALL; p++) {
                found.terms[p] = has(parts, p) ? settle(p, musts | free) : 0;
            }
            found.mayGo = roomLeft();
            return true;
        }

        /** A CHOSEN that fits into the fewest musts needs them all, else it would have fitted into fewer. */
        private int leastMusts(int free) {
            int least = NONE;
            for (int musts = 0; musts <= ALL_ASKS; musts++) {
                boolean fewer = least == NONE || Integer.bitCount(musts) < Integer.bitCount(least);
                if (fewer && room(parts, musts | free) != 0) {
                    least = musts;
                }
            }
            return least;
        }

        /** The first TERMS of a PIECE that leave room for the others: it lets a whole GO by these alone then. */
        private int settle(int piece, int borne) {
            for (int t = 0; t < TERMS_IN_ALL; t++) {
                if (mayChoose(piece, t, borne)) {
                    lets[piece] = goes[offer(piece, t)];
                    if (roomLeft() != 0) {
                        return t;
                    }
                }
            }
            return 0;
        }

        int countGood() {
            for (int go = 0; go <= ALL_TERMS; go++) {
                counts[go] = 0;
            }
            counts[choices[book.whole]] = 1;
            for (int p = 0; p < PIECES_IN_ALL; p++) {
                if (has(parts, p)) {
                    countWith(p);
                }
            }
            int all = 0;
            for (int go = 1; go <= ALL_TERMS; go++) {
                all += counts[go];
            }
            return all;
        }

        private void countWith(int piece) {
            for (int go = 0; go <= ALL_TERMS; go++) {
                nextCounts[go] = 0;
            }
            for (int t = 0; t < TERMS_IN_ALL; t++) {
                for (int go = 0; go <= ALL_TERMS; go++) {
                    if (has(choices[piece], t)) {
                        nextCounts[go & goes[offer(piece, t)]] += counts[go];
                    }
                }
            }
            int[] spare = counts;
            counts = nextCounts;
            nextCounts = spare;
        }

        /** Fills longest and ways for PIECES of THE WHOLE. */
        void walk() {
            for (int p = 0; p < PIECES_IN_ALL; p++) {
                longest[p] = 0;
                ways[p] = p == book.whole ? 1 : 0;
            }
            // Downwards: all ways to a PIECE are known before it is left.
            for (int p = book.whole; p > 0; p--) {
                for (int other = 0; other < p; other++) {
                    if (ways[p] > 0 && kinds[use(p, other)] != NONE) {
                        ways[other] += ways[p];
                        longest[other] = Math.max(longest[other], longest[p] + 1);
                    }
                }
            }
        }
    }
}
