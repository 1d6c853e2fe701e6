import java.util.function.Consumer;
import java.util.function.Supplier;
import java.util.function.ToIntFunction;

/**
 * Holds that a call changes nothing, or only what is told: two towns are made alike, something is done with one or
 * both of them, and then all that calls can see of both is the same. No town comes to 512 calls by this.
 */
final class Twins {
    private final Due due;

    Twins(Due due) {
        this.due = due;
    }

    /** A refusal, or what is asked: the answer is the one that is due, and nothing changed behind it. */
    void still(String sentence, Supplier<OvenPairs> town, ToIntFunction<OvenPairs> call, int want) {
        OvenPairs x = town.get();
        due.is(sentence, call.applyAsInt(x), want);
        due.same(sentence + ": it changed something", seen(x), seen(town.get()));
    }

    void still(String sentence, ToIntFunction<OvenPairs> call, int want) {
        still(sentence, Twins::rich, call, want);
    }

    /** Whatever is answered, nothing changes. */
    void asks(String sentence, ToIntFunction<OvenPairs> call) {
        OvenPairs x = rich();
        call.applyAsInt(x);
        due.same(sentence + ": asking changed something", seen(x), seen(rich()));
    }

    /** What the one run makes of a town is what the other one makes of its twin. */
    void alike(String sentence, Supplier<OvenPairs> town, Consumer<OvenPairs> one, Consumer<OvenPairs> other) {
        OvenPairs x = town.get(), y = town.get();
        one.accept(x);
        other.accept(y);
        due.same(sentence, seen(x), seen(y));
    }

    /** A call does change something of what can be seen: else the twins would hold nothing. */
    void changes(String sentence, Consumer<OvenPairs> call) {
        OvenPairs x = rich();
        call.accept(x);
        due.is(sentence + " changes what can be seen", seen(x).equals(seen(rich())) ? 0 : 1, 1);
    }

    /** Four OVENS, one of them away, with some of all that there can be, and another town kept. */
    static OvenPairs rich() {
        OvenPairs x = new OvenPairs();
        x.oven(4, 5, 0, 3);
        x.oven(4, 5, 3, 4);
        x.oven(2, 6, 9, 7);
        Due.tell(x, "range if night=0shy;rake stay;");
        x.report(4, 0, 3, 3);
        x.ends(9);
        x.seed(41);
        x.keep();
        x.oven(5, 8, 2, 6);
        Due.tell(x, "rake if night=9stay;portable if number=0 and night=5shy;");
        x.report(1, 4, -2, 6);
        x.night();
        x.lot();
        x.anew();
        x.night();
        x.change(2, 4, 4);
        x.prove(3);
        x.sheet(0, 0, 5);
        int[] acts = {1, 0, 9, 4, -1};
        for (int i = 0; i < 5; i++) x.write(0, i, acts[i]);
        x.sheet(1, 3, 2);
        x.write(1, 1, -7);
        x.sheet(2, 4, 0);
        x.shelf(0, 0, 3);
        x.shelf(1, 1, 0);
        x.shelf(2, 0, 1);
        x.act(0, 1, 5);
        Due.feed(x, "oven shy; ");
        return x;
    }

    /** Nobody at all. */
    static OvenPairs bare() {
        return new OvenPairs();
    }

    /** All that calls can see of a town: as it is, then by THE RULES on its TAPE, then as it was kept. Uses it up. */
    static String seen(OvenPairs x) {
        StringBuilder told = new StringBuilder(now(x));
        put(told, "rules", x.rules());
        willsTo(told, x);
        put(told, "again", x.again());
        told.append(now(x));
        return told.toString();
    }

    /** All that calls can see but for what is kept and what THE TAPE tells; changes nothing. */
    static String now(OvenPairs x) {
        StringBuilder told = new StringBuilder();
        for (int what = 0; what <= 6; what++) put(told, "many " + what, x.many(what));
        townTo(told, x);
        for (int k = 0; k < x.many(4); k++) {
            for (int what = 0; what <= 2; what++) put(told, "row " + k + " " + what, x.row(k, what));
        }
        for (int sheet = 0; sheet < 4; sheet++) sheetTo(told, x, sheet);
        for (int shelf = 0; shelf < 4; shelf++) shelfTo(told, x, shelf);
        for (int i = 0; i < x.many(6); i++) put(told, "trace " + i, x.trace(i));
        return told.toString();
    }

    /** What keep() keeps. */
    static void townTo(StringBuilder told, OvenPairs x) {
        for (int what = 0; what <= 4; what++) put(told, "state " + what, x.state(what));
        int ovens = x.many(0);
        for (int o = 0; o < ovens; o++) {
            for (int what = 0; what <= 7; what++) put(told, "oven " + o + " " + what, x.ovenOf(o, what));
            put(told, "longing of " + o, o == 0 ? 0 : x.longing(o, o - 1));
            put(told, "longing for " + o, o == 0 ? 0 : x.longing(o - 1, o));
            put(told, "often " + o, x.often(o));
            put(told, "mate " + o, x.mate(o));
        }
        put(told, "on 16", x.on(16));
        for (int what = 0; what <= 2; what++) put(told, "span " + what, x.span(what));
        put(told, "liar", x.liar());
        int z = x.seed(0);
        x.seed(z);
        put(told, "z", z);
    }

    private static void willsTo(StringBuilder told, OvenPairs x) {
        put(told, "many 1", x.many(1));
        put(told, "many 5", x.many(5));
        for (int o = 0; o < x.many(0); o++) put(told, "will " + o, x.ovenOf(o, 6));
    }

    private static void sheetTo(StringBuilder told, OvenPairs x, int sheet) {
        for (int sort = 0; sort <= 4; sort++) {
            int first = x.item(sheet, sort, 0);
            put(told, "sheet " + sheet + " as " + sort, first);
            if (first == -11) return;
            if (first == -13) continue;
            for (int i = 1; i < 6; i++) put(told, "item " + sheet + " " + i, x.item(sheet, sort, i));
        }
    }

    private static void shelfTo(StringBuilder told, OvenPairs x, int shelf) {
        for (int as = 0; as <= 14; as = as == 5 ? 10 : as + 1) {
            int thing = x.taken(shelf, as);
            put(told, "shelf " + shelf + " as " + as, thing);
            if (thing == -11) return;
        }
    }

    private static void put(StringBuilder told, String call, int answer) {
        told.append(call).append(" = ").append(answer).append('\n');
    }
}
