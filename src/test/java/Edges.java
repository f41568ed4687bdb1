import java.util.function.Supplier;
import java.util.function.ToIntFunction;

/** Calls with numbers just out of their bounds, on objects that are empty, filled up, or ready to write terms. */
final class Edges {
    /** A call that takes a number. */
    interface Call {
        int on(UnderTerms x, int v);
    }

    private final Due due;

    Edges(Due due) {
        this.due = due;
    }

    /** Nothing is as at first, and both images are kept and differ; the PAD is full; some 130 calls. */
    static UnderTerms filled() {
        UnderTerms x = new UnderTerms();
        for (int t = 0; t < 5; t++) {
            Calls.say(x, "nspac".charAt(t) + "" + (t + 1) % 4 + ":" + t);
            x.terms(t);
            x.later(t, (t + 1) % 5);
        }
        for (int p = 0; p < 6; p++) {
            x.piece(p, 0, 31 - p);
            x.piece(p, 1, 1);
            x.piece(p, 2, 63 - p);
            x.piece(p, 3, 999 - p);
            for (int other = 0; other < p; other++) {
                x.uses(p, other, (p + other) % 4);
            }
        }
        x.whole(3);
        x.coin(99);
        x.image(0);
        x.whole(2);
        x.coin(98);
        x.later(2, -1);
        x.uses(5, 4, -1);
        x.image(1);
        x.whole(4);
        x.coin(97);
        x.later(0, 3);
        x.uses(5, 4, 3);
        x.piece(5, 0, 8);
        Calls.say(x, "nspac2:01234!~!~!~!~");
        return x;
    }

    /** As filled, but that the PAD could become terms. */
    static UnderTerms ready() {
        UnderTerms x = filled();
        x.wipe();
        Calls.say(x, "sp1:02");
        return x;
    }

    /** All that can be seen of an object, its IMAGES, too; it is another one then; some 260 calls. */
    static String look(UnderTerms x) {
        StringBuilder all = new StringBuilder(Calls.state(x));
        all.append("\n  written ").append(x.terms(0)).append(' ').append(Calls.state(x));
        for (int n = 0; n < 2; n++) {
            all.append("\n  image ").append(x.restore(n)).append(' ').append(Calls.state(x));
        }
        return all.toString();
    }

    /** The numbers around a row are refused, and so are the least and the greatest; _ stands for the number. */
    void beyond(String call, int least, int most, Call asked, int want) {
        for (int v : new int[] {Integer.MIN_VALUE, least - 1, most + 1, Integer.MAX_VALUE}) {
            refused(call.replace("_", "" + v), x -> asked.on(x, v), want);
        }
    }

    /** A call is refused whatever the object is like. */
    void refused(String call, ToIntFunction<UnderTerms> asked, int want) {
        refusedOn(call + " on a new object", UnderTerms::new, asked, want);
        refusedOn(call + " on a filled object", Edges::filled, asked, want);
        refusedOn(call + " on a ready object", Edges::ready, asked, want);
    }

    void refusedOn(String call, Supplier<UnderTerms> make, ToIntFunction<UnderTerms> asked, int want) {
        changesNothing(call, make, asked, want);
        due.is(call + ", refused again", twice(make.get(), asked), want);
    }

    /** The call answers as told, and all that can be seen is as if it had not been made. */
    void changesNothing(String call, Supplier<UnderTerms> make, ToIntFunction<UnderTerms> asked, int want) {
        UnderTerms x = make.get();
        due.is(call, asked.applyAsInt(x), want);
        due.same(call + " has changed something", look(x), look(make.get()));
    }

    private static int twice(UnderTerms x, ToIntFunction<UnderTerms> asked) {
        asked.applyAsInt(x);
        return asked.applyAsInt(x);
    }
}
