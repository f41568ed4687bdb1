import java.util.ArrayList;
import java.util.Arrays;
import java.util.HashSet;
import java.util.List;
import java.util.Set;

/**
 * The document once more, by trying everything out: all texts that TERMS can be, all ways of USES, all CHOSEN,
 * all sets of PIECES. It shares no thought with UnderTerms, so that both would have to err alike.
 */
final class Model {
    static final int NONE = -6, UNKNOWN = -1, OUTSIDE = -2, STATE = -3, FULL = -4, NO = -5;
    private static final Set<String> TEXTS = new HashSet<>();
    private static final Set<String> BEGINNINGS = new HashSet<>();
    private static final String LETTERS = "nspac";

    static {
        writeTexts("");
    }

    private static void writeTexts(String asks) {
        for (int reach = 0; reach <= 3; reach++) {
            writeText(asks + reach);
            for (int go = 1; go < 32; go++) {
                StringBuilder digits = new StringBuilder();
                for (int t = 0; t < 5; t++) {
                    if ((go & 1 << t) != 0) {
                        digits.append(t);
                    }
                }
                writeText(asks + reach + ":" + digits);
            }
        }
        for (char letter : LETTERS.toCharArray()) {
            if (asks.indexOf(letter) < 0) {
                writeTexts(asks + letter);
            }
        }
    }

    private static void writeText(String text) {
        TEXTS.add(text);
        for (int n = 0; n <= text.length(); n++) {
            BEGINNINGS.add(text.substring(0, n));
        }
    }

    /** What an IMAGE keeps. */
    private static final class Kept {
        String[] texts = {"3", "3", "3", "3", "3"};
        int[] later = {-1, -1, -1, -1, -1};
        int[][] piece = {{1, 1, 1, 1, 1, 1}, {0, 0, 0, 0, 0, 0}, {1, 1, 1, 1, 1, 1}, {10, 10, 10, 10, 10, 10}};
        int[][] kind = new int[6][6];
        int whole = 5;
        int coin = 5;

        Kept copy() {
            Kept k = new Kept();
            k.texts = texts.clone();
            k.later = later.clone();
            for (int i = 0; i < 4; i++) {
                k.piece[i] = piece[i].clone();
            }
            for (int i = 0; i < 6; i++) {
                k.kind[i] = kind[i].clone();
            }
            k.whole = whole;
            k.coin = coin;
            return k;
        }
    }

    private String pad = "";
    private Kept k = new Kept();
    private final Kept[] images = new Kept[2];

    Model() {
        for (int[] row : k.kind) {
            Arrays.fill(row, -1);
        }
    }

    private static boolean out(int v, int least, int most) {
        return v < least || v > most;
    }

    private static int noneIf(int v) {
        return v == -1 ? NONE : v;
    }

    int say(int sign) {
        if (out(sign, 33, 126)) {
            return OUTSIDE;
        }
        if (pad.length() == 20) {
            return FULL;
        }
        pad += (char) sign;
        return pad.length();
    }

    int wipe() {
        int n = pad.length();
        pad = "";
        return n;
    }

    int fault() {
        for (int n = 0; n < pad.length(); n++) {
            if (!BEGINNINGS.contains(pad.substring(0, n + 1))) {
                return n;
            }
        }
        return TEXTS.contains(pad) ? NONE : pad.length();
    }

    int terms(int t) {
        if (out(t, 0, 4)) {
            return UNKNOWN;
        }
        if (fault() != NONE) {
            return NO;
        }
        k.texts[t] = pad;
        pad = "";
        return asks(t);
    }

    private int asks(int t) {
        int bits = 0;
        for (int i = 0; i < 5; i++) {
            if (k.texts[t].indexOf(LETTERS.charAt(i)) >= 0) {
                bits |= 1 << i;
            }
        }
        return bits;
    }

    private int reach(int t) {
        return k.texts[t].replaceAll("[a-z]", "").charAt(0) - '0';
    }

    private int go(int t) {
        int colon = k.texts[t].indexOf(':');
        if (colon < 0) {
            return 31;
        }
        int bits = 0;
        for (char c : k.texts[t].substring(colon + 1).toCharArray()) {
            bits |= 1 << (c - '0');
        }
        return bits;
    }

    int about(int t, int what) {
        if (out(t, 0, 4)) {
            return UNKNOWN;
        }
        if (out(what, 0, 3)) {
            return OUTSIDE;
        }
        return new int[] {asks(t), reach(t), go(t), noneIf(k.later[t])}[what];
    }

    int later(int t, int v) {
        if (out(t, 0, 4)) {
            return UNKNOWN;
        }
        if (out(v, -1, 4) || v == t) {
            return OUTSIDE;
        }
        int was = k.later[t];
        k.later[t] = v;
        return noneIf(was);
    }

    int piece(int piece, int what, int v) {
        if (out(piece, 0, 5)) {
            return UNKNOWN;
        }
        if (out(what, 0, 3)) {
            return OUTSIDE;
        }
        if (out(v, what == 0 ? 1 : 0, new int[] {31, 1, 63, 999}[what])) {
            return OUTSIDE;
        }
        int was = k.piece[what][piece];
        k.piece[what][piece] = v;
        return was;
    }

    int uses(int piece, int other, int kind) {
        if (out(piece, 0, 5) || out(other, 0, 5) || other >= piece) {
            return UNKNOWN;
        }
        if (out(kind, -1, 3)) {
            return OUTSIDE;
        }
        int was = k.kind[piece][other];
        k.kind[piece][other] = kind;
        return noneIf(was);
    }

    int choices(int piece) {
        if (out(piece, 0, 5)) {
            return UNKNOWN;
        }
        int bits = 0;
        for (int t = 0; t < 5; t++) {
            if ((k.piece[0][piece] & 1 << t) != 0) {
                int at = t;
                for (int n = 0; n < 9 && at >= 0; n++) {
                    bits |= 1 << at;
                    at = k.piece[1][piece] == 1 ? k.later[at] : -1;
                }
            }
        }
        return bits;
    }

    int whole(int piece) {
        if (out(piece, 0, 5)) {
            return UNKNOWN;
        }
        int was = k.whole;
        k.whole = piece;
        return was;
    }

    int coin(int v) {
        if (out(v, 0, 99)) {
            return OUTSIDE;
        }
        int was = k.coin;
        k.coin = v;
        return was;
    }

    /** All ways from THE WHOLE to a PIECE: of each the KINDS. */
    private List<List<Integer>> ways(int to) {
        List<List<Integer>> found = new ArrayList<>();
        go(k.whole, to, new ArrayList<>(), found);
        return found;
    }

    private void go(int at, int to, List<Integer> kinds, List<List<Integer>> found) {
        if (at == to) {
            found.add(new ArrayList<>(kinds));
            return;
        }
        for (int next = 0; next < at; next++) {
            if (k.kind[at][next] >= 0) {
                kinds.add(k.kind[at][next]);
                go(next, to, kinds, found);
                kinds.remove(kinds.size() - 1);
            }
        }
    }

    int pieces() {
        int bits = 0;
        for (int p = 0; p < 6; p++) {
            if (!ways(p).isEmpty()) {
                bits |= 1 << p;
            }
        }
        return bits;
    }

    /** By how much REACH a PIECE REACHES at least; 4: it is not of THE WHOLE, or is itself, or is left out. */
    private int[] needs(int leftOut) {
        int[] needs = new int[6];
        for (int p = 0; p < 6; p++) {
            needs[p] = 4;
            if (p != k.whole && (leftOut & 1 << p) == 0) {
                for (List<Integer> way : ways(p)) {
                    int widest = 0;
                    for (int kind : way) {
                        widest = Math.max(widest, kind);
                    }
                    needs[p] = Math.min(needs[p], widest);
                }
            }
        }
        return needs;
    }

    /** reaching, asks, may go */
    private int[] outcome(int[] chosen, int[] needs) {
        int[] o = {0, 0, choices(k.whole)};
        for (int p = 0; p < 6; p++) {
            if (needs[p] <= reach(chosen[p])) {
                o[0] |= 1 << p;
                o[1] |= asks(chosen[p]);
                o[2] &= go(chosen[p]);
            }
        }
        return o;
    }

    private static int musts(int asks, int way) {
        return way == 0 ? asks : way == 1 ? asks & (4 + 16 + 2) : asks & 4;
    }

    private List<int[]> allChosen() {
        List<int[]> all = new ArrayList<>();
        choose(0, new int[6], all);
        return all;
    }

    private void choose(int p, int[] chosen, List<int[]> all) {
        if (p == 6) {
            all.add(chosen.clone());
            return;
        }
        boolean part = p != k.whole && (pieces() & 1 << p) != 0;
        for (int t = 0; t < 5; t++) {
            if (part ? (choices(p) & 1 << t) != 0 : t == 0) {
                chosen[p] = t;
                choose(p + 1, chosen, all);
            }
        }
        chosen[p] = 0;
    }

    private int countGood(int leftOut) {
        int[] needs = needs(leftOut);
        int n = 0;
        for (int[] chosen : allChosen()) {
            if (outcome(chosen, needs)[2] != 0) {
                n++;
            }
        }
        return n;
    }

    int by(int number, int what) {
        if (out(number, 0, 999999) || out(what, 0, 4)) {
            return OUTSIDE;
        }
        String digits = String.format("%06d", number);
        for (int[] chosen : allChosen()) {
            StringBuilder b = new StringBuilder();
            for (int p = 5; p >= 0; p--) {
                b.append(chosen[p]);
            }
            if (b.toString().equals(digits)) {
                int[] o = outcome(chosen, needs(0));
                return what == 0 ? o[0] : what == 4 ? o[2] : musts(o[1], what - 1);
            }
        }
        return OUTSIDE;
    }

    /** null: none is GOOD; allChosen goes by TERMS of PIECE 0, then 1, ..., so the first of equals is due. */
    private int[] findBest(int way) {
        int[] needs = needs(0);
        int[] best = null;
        int least = 0;
        for (int[] chosen : allChosen()) {
            int[] o = outcome(chosen, needs);
            int m = musts(o[1], way);
            int rank = Integer.bitCount(m) * 100 + m;
            if (o[2] != 0 && (best == null || rank < least)) {
                best = chosen;
                least = rank;
            }
        }
        return best;
    }

    int best(int way, int piece) {
        if (out(piece, -2, 5)) {
            return UNKNOWN;
        }
        if (out(way, 0, 2)) {
            return OUTSIDE;
        }
        int[] best = findBest(way);
        if (best == null) {
            return NONE;
        }
        int[] o = outcome(best, needs(0));
        if (piece < 0) {
            return piece == -2 ? o[2] : musts(o[1], way);
        }
        return piece != k.whole && (pieces() & 1 << piece) != 0 ? best[piece] : NONE;
    }

    int good() {
        return countGood(0);
    }

    private List<Integer> setsOfParts() {
        int parts = pieces() & ~(1 << k.whole);
        List<Integer> sets = new ArrayList<>();
        for (int set = 0; set < 64; set++) {
            if ((set & parts) == set) {
                sets.add(set);
            }
        }
        return sets;
    }

    int bar() {
        if (good() > 0) {
            return STATE;
        }
        List<Integer> sets = setsOfParts();
        sets.sort((a, b) -> Integer.bitCount(a) != Integer.bitCount(b)
            ? Integer.bitCount(a) - Integer.bitCount(b) : a - b);
        for (int set : sets) {
            if (countGood(63 & ~set) == 0) {
                return set;
            }
        }
        throw new IllegalStateException("no set bars");
    }

    private int cost(int set) {
        int cost = 0;
        for (int p = 0; p < 6; p++) {
            cost += (set & 1 << p) != 0 ? k.piece[3][p] : 0;
        }
        return cost;
    }

    int anew(int what) {
        if (out(what, 0, 1)) {
            return OUTSIDE;
        }
        List<Integer> sets = setsOfParts();
        sets.sort((a, b) -> cost(a) != cost(b) ? cost(a) - cost(b) : Integer.bitCount(a) != Integer.bitCount(b)
            ? Integer.bitCount(a) - Integer.bitCount(b) : a - b);
        for (int set : sets) {
            if (countGood(set) > 0) {
                return what == 0 ? set : cost(set);
            }
        }
        throw new IllegalStateException("no set mends");
    }

    int looser(int what) {
        if (out(what, 0, 1)) {
            return OUTSIDE;
        }
        if (good() > 0) {
            return 0;
        }
        int[] best = null;
        Kept as = k;
        for (int pair = 0; pair < 40; pair++) {
            int from = pair / 10;
            int to = pair % 10;
            if (from < to && to < 4) {
                k = as.copy();
                int n = 0;
                int members = pieces();
                for (int p = 0; p < 6; p++) {
                    for (int other = 0; other < p; other++) {
                        if ((members & 1 << p) != 0 && as.kind[p][other] == from) {
                            k.kind[p][other] = to;
                            n++;
                        }
                    }
                }
                int cost = (to - from) * k.coin * n;
                if (good() > 0 && (best == null || cost < best[1])) {
                    best = new int[] {pair, cost};
                }
            }
        }
        k = as;
        return best == null ? NONE : best[what];
    }

    int agree(int t, int anew) {
        if (out(t, 0, 4)) {
            return UNKNOWN;
        }
        if (out(anew, 0, 63)) {
            return OUTSIDE;
        }
        int owners = 0;
        for (int p = 0; p < 6; p++) {
            if ((pieces() & ~anew & 1 << p) != 0 && (choices(p) & 1 << t) == 0) {
                owners |= k.piece[2][p];
            }
        }
        return owners;
    }

    int more(int piece, int kind, int way) {
        if (out(piece, 0, 5) || piece >= k.whole) {
            return UNKNOWN;
        }
        if (out(kind, 0, 3) || out(way, 0, 2)) {
            return OUTSIDE;
        }
        if (k.kind[k.whole][piece] != -1) {
            return STATE;
        }
        int before = best(way, -1);
        k.kind[k.whole][piece] = kind;
        int after = best(way, -1);
        k.kind[k.whole][piece] = -1;
        return before == NONE || after == NONE ? NONE : after & ~before;
    }

    int names(int i) {
        int[] best = findBest(0);
        if (best == null) {
            return NONE;
        }
        int reaching = outcome(best, needs(0))[0];
        int[] counts = new int[6];
        for (int p = 0; p < 6; p++) {
            for (int owner = 0; owner < 6; owner++) {
                if ((reaching & 1 << p) != 0 && (asks(best[p]) & 1) != 0 && (k.piece[2][p] & 1 << owner) != 0) {
                    counts[owner]++;
                }
            }
        }
        List<Integer> names = new ArrayList<>();
        for (int n = 6; n > 0; n--) {
            for (int owner = 0; owner < 6; owner++) {
                if (counts[owner] == n) {
                    names.add(owner);
                }
            }
        }
        if (i == -1) {
            return names.size();
        }
        return i >= 0 && i < names.size() ? names.get(i) : NONE;
    }

    int audit(int piece, int what) {
        if (out(piece, 0, 5)) {
            return UNKNOWN;
        }
        if (out(what, 0, 1)) {
            return OUTSIDE;
        }
        List<List<Integer>> ways = ways(piece);
        if (ways.isEmpty()) {
            return NONE;
        }
        int longest = 0;
        for (List<Integer> way : ways) {
            longest = Math.max(longest, way.size());
        }
        return what == 0 ? longest : ways.size();
    }

    int image(int n) {
        if (out(n, 0, 1)) {
            return OUTSIDE;
        }
        images[n] = k.copy();
        return 1;
    }

    int restore(int n) {
        if (out(n, 0, 1)) {
            return OUTSIDE;
        }
        if (images[n] == null) {
            return STATE;
        }
        k = images[n].copy();
        return 1;
    }

    int told(int what) {
        if (what == 0 || what == 1 || what == 2) {
            return what == 0 ? pad.length() : what == 1 ? k.whole : k.coin;
        }
        for (int p = 0; p < 6; p++) {
            if (what == 10 + p || what == 20 + p || what == 30 + p || what == 40 + p) {
                return k.piece[new int[] {0, 2, 3, 1}[what / 10 - 1]][p];
            }
            for (int other = 0; other < 6; other++) {
                if (what == 100 + 8 * p + other) {
                    return noneIf(k.kind[p][other]);
                }
            }
        }
        return OUTSIDE;
    }
}
