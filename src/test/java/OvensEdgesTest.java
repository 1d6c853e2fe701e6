import java.util.function.Supplier;

/** The edges of promises 1 to 9: bounds, refusals in their order, what is unchanged behind them. */
public final class OvensEdgesTest {
    private static final Due due = new Due();
    private static final Twins twins = new Twins(due);
    private static final int LEAST = Integer.MIN_VALUE, MOST = Integer.MAX_VALUE;

    public static void main(String[] args) {
        nothingAtFirst();
        ownStateOnly();
        boundsOfAnOven();
        numberedAsTheyCome();
        sixAtMost();
        badOven();
        whatOfAnOven();
        ofNoOven();
        boundsOfChange();
        badChange();
        changedBack();
        kindsOfRemake();
        badRemake();
        endsOfLonging();
        badLonging();
        boundsOfEnd();
        endBelowNight();
        overFromEndOn();
        anewFromAnywhere();
        whatOfState();
        theLastOf512Calls();
        twinsHold();
        due.end();
    }

    private static OvenPairs full() {
        OvenPairs x = new OvenPairs();
        for (int k = 0; k < 6; k++) x.oven(k % 5 + 1, k + 3, k * 3, k + 1);
        return x;
    }

    private static void nothingAtFirst() {
        OvenPairs x = new OvenPairs();
        for (int what = 0; what <= 6; what++) due.is("1 many " + what, x.many(what), 0);
        due.is("1 NIGHT is 0 at first", x.state(0), 0);
        due.is("1 END is 12 at first", x.state(1), 12);
        due.is("1 SCORE is 0 at first", x.state(2), 0);
        due.is("1 it isn't OVER at first", x.state(3), 0);
        due.is("1 nobody is at home", x.state(4), 0);
        due.is("1 z is 1 at first", x.seed(1), 1);
        due.is("1 no RULES tell", x.rules(), 0);
        due.is("1 no REPORTS", x.forget(), 0);
        due.is("1 no ROWS", x.row(0, 0), -9);
        due.is("1 no ROWS are right", x.judge(), 0);
        due.is("1 no TRACE", x.trace(0), OvenPairs.NONE);
        for (int k = 0; k < 4; k++) {
            for (int sort = 0; sort <= 4; sort++) due.is("1 SHEETS are missing at first", x.item(k, sort, 0), -11);
            due.is("1 SHELVES hold nothing at first", x.taken(k, 0), -11);
            due.is("1 nor a row", x.taken(k, 10), -11);
        }
        twins.still("1 nothing is kept", Twins::bare, y -> y.again(), OvenPairs.NONE);
    }

    private static void ownStateOnly() {
        OvenPairs x = Twins.rich();
        OvenPairs other = new OvenPairs();
        due.same("1 another object is new", Twins.seen(other), Twins.seen(new OvenPairs()));
        due.same("1 and the first is as it was", Twins.seen(x), Twins.seen(Twins.rich()));
    }

    private static void isOven(OvenPairs x, int o, int kind, int warm, int place, int fire) {
        int[] of = {kind, warm, place, fire, 0};
        for (int what = 0; what <= 4; what++) due.is("2 ovenOf " + o + " " + what, x.ovenOf(o, what), of[what]);
    }

    private static void boundsOfAnOven() {
        int[][] edges = {{1, 5, 5, 5}, {5, 5, 5, 5}, {3, 0, 5, 5}, {3, 9, 5, 5}, {3, 5, 0, 5}, {3, 5, 15, 5}, {3, 5, 5, 1},
            {3, 5, 5, 9}, {1, 0, 0, 1}, {5, 9, 15, 9}, {2, 1, 1, 2}, {4, 8, 14, 8}};
        for (int[] e : edges) {
            OvenPairs x = new OvenPairs();
            due.is("2 just inside", x.oven(e[0], e[1], e[2], e[3]), 0);
            isOven(x, 0, e[0], e[1], e[2], e[3]);
        }
    }

    private static void numberedAsTheyCome() {
        OvenPairs x = new OvenPairs();
        for (int o = 0; o < 6; o++) {
            due.is("2 not there yet", x.ovenOf(o, 0), OvenPairs.BAD);
            due.is("2 its number", x.oven(o % 5 + 1, o, o + 9, o + 2), o);
            due.is("2 how many", x.many(0), o + 1);
            due.is("2 at home", x.state(4), (2 << o) - 1);
        }
        for (int o = 0; o < 6; o++) isOven(x, o, o % 5 + 1, o, o + 9, o + 2);
        OvenPairs y = new OvenPairs();
        for (int o = 0; o < 6; o++) {
            y.oven(1, 1, 1, 1);
            y.change(o, 4, 9);
            y.night();
        }
        due.is("2 a new one is at home whatever the others are", y.ovenOf(5, 4), 8);
    }

    private static void sixAtMost() {
        twins.still("2 FULL: a seventh", OvensEdgesTest::full, x -> x.oven(1, 1, 1, 1), OvenPairs.FULL);
        twins.still("2 BAD ahead of FULL: KIND", OvensEdgesTest::full, x -> x.oven(0, 1, 1, 1), OvenPairs.BAD);
        twins.still("2 BAD ahead of FULL: KIND", OvensEdgesTest::full, x -> x.oven(6, 1, 1, 1), OvenPairs.BAD);
        twins.still("2 BAD ahead of FULL: WARM", OvensEdgesTest::full, x -> x.oven(1, 10, 1, 1), OvenPairs.BAD);
        twins.still("2 BAD ahead of FULL: PLACE", OvensEdgesTest::full, x -> x.oven(1, 1, 16, 1), OvenPairs.BAD);
        twins.still("2 BAD ahead of FULL: FIRE", OvensEdgesTest::full, x -> x.oven(1, 1, 1, 0), OvenPairs.BAD);
    }

    private static void badOven() {
        int[][] bad = {{0, 5, 5, 5}, {-1, 5, 5, 5}, {6, 5, 5, 5}, {LEAST, 5, 5, 5}, {MOST, 5, 5, 5},
            {3, -1, 5, 5}, {3, 10, 5, 5}, {3, LEAST, 5, 5}, {3, MOST, 5, 5},
            {3, 5, -1, 5}, {3, 5, 16, 5}, {3, 5, LEAST, 5}, {3, 5, MOST, 5},
            {3, 5, 5, 0}, {3, 5, 5, -1}, {3, 5, 5, 10}, {3, 5, 5, LEAST}, {3, 5, 5, MOST}};
        for (int[] b : bad) twins.still("2 BAD", x -> x.oven(b[0], b[1], b[2], b[3]), OvenPairs.BAD);
    }

    private static void whatOfAnOven() {
        for (int what : new int[] {-1, 8, LEAST, MOST}) {
            twins.still("3 BAD what " + what, x -> x.ovenOf(0, what), OvenPairs.BAD);
        }
        for (int what = 0; what <= 7; what++) {
            int one = what;
            twins.asks("3 what " + what, x -> x.ovenOf(3, one));
        }
        OvenPairs x = new OvenPairs();
        x.oven(5, 4, 3, 2);
        int[] of = {5, 4, 3, 2, 0, 2, 0, 6};
        for (int what = 0; what <= 7; what++) due.is("3 what " + what, x.ovenOf(0, what), of[what]);
        x.change(0, 4, 9);
        x.night();
        int[] then = {5, 4, 3, 2, 8, 0, 0, 6};
        for (int what = 0; what <= 7; what++) due.is("3 what " + what + ", away", x.ovenOf(0, what), then[what]);
    }

    private static void ofNoOven() {
        for (int o : new int[] {-1, 4, 5, 6, 31, 32, LEAST, MOST}) {
            for (int what : new int[] {-1, 0, 4, 7}) {
                twins.still("3 BAD OVEN " + o, x -> x.ovenOf(o, what), OvenPairs.BAD);
            }
        }
        due.is("3 nobody at all", new OvenPairs().ovenOf(0, 0), OvenPairs.BAD);
        due.is("3 the last of six", full().ovenOf(5, 0), 1);
        due.is("3 no seventh", full().ovenOf(6, 0), OvenPairs.BAD);
    }

    private static void boundsOfChange() {
        int[][] bounds = {{1, 0, 9}, {2, 0, 15}, {3, 1, 9}, {4, 0, 9}};
        for (int[] b : bounds) {
            for (int o = 0; o < 6; o++) {
                OvenPairs x = full();
                int was = x.ovenOf(o, b[0]);
                for (int v : new int[] {b[1], b[2], b[1] + 1, b[2] - 1, b[1], b[1]}) {
                    due.is("4 change " + o + " " + b[0] + " to " + v, x.change(o, b[0], v), was);
                    due.is("4 it is " + v, x.ovenOf(o, b[0]), v);
                    was = v;
                }
                x.change(o, b[0], full().ovenOf(o, b[0]));
                due.same("4 nothing else changed by " + b[0] + " of " + o, Twins.seen(x), Twins.seen(full()));
            }
            for (int v : new int[] {b[1] - 1, b[2] + 1, LEAST, MOST}) {
                twins.still("4 BAD " + b[0] + " " + v, x -> x.change(1, b[0], v), OvenPairs.BAD);
            }
        }
    }

    private static void badChange() {
        for (int what : new int[] {-1, 0, 5, 6, 7, LEAST, MOST}) {
            twins.still("4 BAD what " + what, x -> x.change(0, what, 1), OvenPairs.BAD);
        }
        for (int o : new int[] {-1, 4, 6, LEAST, MOST}) {
            for (int what = 1; what <= 4; what++) {
                int one = what;
                twins.still("4 BAD OVEN " + o, x -> x.change(o, one, 1), OvenPairs.BAD);
            }
        }
        due.is("4 nobody at all", new OvenPairs().change(0, 1, 1), OvenPairs.BAD);
    }

    private static void changedBack() {
        for (int what = 1; what <= 4; what++) {
            int one = what;
            twins.alike("4 there and back, what " + what, Twins::rich, x -> x.change(2, one, x.change(2, one, 1)), x -> { });
            twins.alike("4 to what it is, what " + what, Twins::rich, x -> x.change(3, one, x.ovenOf(3, one)), x -> { });
        }
    }

    private static void kindsOfRemake() {
        for (int from = 1; from <= 5; from++) {
            for (int to = 1; to <= 5; to++) {
                OvenPairs x = new OvenPairs();
                x.oven(from, 5, 5, 5);
                x.oven(4, 6, 5, 5);
                due.is("5 what it was", x.remake(0, to), from);
                due.is("5 KIND", x.ovenOf(0, 0), to);
                OvenPairs y = new OvenPairs();
                y.oven(to, 5, 5, 5);
                y.oven(4, 6, 5, 5);
                due.same("5 as one that came so, " + from + " to " + to, Twins.seen(x), Twins.seen(y));
            }
        }
        twins.alike("5 there and back", Twins::rich, x -> x.remake(2, x.remake(2, 5)), x -> { });
    }

    private static void badRemake() {
        for (int kind : new int[] {0, 6, -1, LEAST, MOST}) {
            twins.still("5 BAD KIND " + kind, x -> x.remake(0, kind), OvenPairs.BAD);
        }
        for (int o : new int[] {-1, 4, 6, LEAST, MOST}) twins.still("5 BAD OVEN " + o, x -> x.remake(o, 1), OvenPairs.BAD);
        due.is("5 nobody at all", new OvenPairs().remake(0, 1), OvenPairs.BAD);
        OvenPairs x = full();
        due.is("5 the last of six", x.remake(5, 5), 1);
        due.is("5 no seventh", x.remake(6, 5), OvenPairs.BAD);
    }

    private static void endsOfLonging() {
        OvenPairs x = new OvenPairs();
        x.oven(5, 9, 0, 1);
        x.oven(5, 9, 15, 1);
        x.oven(1, 0, 0, 1);
        x.oven(1, 0, 15, 1);
        due.is("6 the most, and 100", x.longing(0, 1), 111);
        due.is("6 the least, and 100", x.longing(2, 3), 82);
        due.is("6 the least the other way", x.longing(3, 2), 82);
        twins.asks("6", y -> y.longing(0, 3));
    }

    private static void badLonging() {
        for (int o = 0; o < 4; o++) {
            int one = o;
            twins.still("6 BAD: one and the same " + o, x -> x.longing(one, one), OvenPairs.BAD);
        }
        for (int o : new int[] {-1, 4, 6, LEAST, MOST}) {
            twins.still("6 BAD: the first", x -> x.longing(o, 0), OvenPairs.BAD);
            twins.still("6 BAD: the second", x -> x.longing(0, o), OvenPairs.BAD);
            twins.still("6 BAD: both", x -> x.longing(o, o), OvenPairs.BAD);
        }
        due.is("6 the last of six", full().longing(5, 4) + full().longing(4, 5), 100 + 100 + (7 - 3 - 3) + 8 + 2);
    }

    private static void boundsOfEnd() {
        OvenPairs x = new OvenPairs();
        due.is("7 the least", x.ends(1), 12);
        due.is("7 the most", x.ends(16), 1);
        due.is("7 what it was", x.ends(16), 16);
        due.is("7 END", x.state(1), 16);
        for (int v : new int[] {0, 17, -1, LEAST, MOST}) twins.still("7 BAD " + v, y -> y.ends(v), OvenPairs.BAD);
        twins.alike("7 there and back", Twins::rich, y -> y.ends(y.ends(16)), y -> { });
    }

    private static Supplier<OvenPairs> behind(int nights) {
        return () -> {
            OvenPairs x = full();
            x.ends(16);
            for (int k = 0; k < nights; k++) x.night();
            return x;
        };
    }

    private static void endBelowNight() {
        twins.still("7 STATE: one below NIGHT", behind(5), x -> x.ends(4), OvenPairs.STATE);
        twins.still("7 STATE: the least", behind(5), x -> x.ends(1), OvenPairs.STATE);
        twins.still("7 BAD ahead of STATE", behind(5), x -> x.ends(0), OvenPairs.BAD);
        twins.still("7 STATE: 15 behind 16", behind(16), x -> x.ends(15), OvenPairs.STATE);
        due.is("7 NIGHT itself", behind(5).get().ends(5), 16);
        due.is("7 NIGHT itself, the most", behind(16).get().ends(16), 16);
        due.is("7 one above NIGHT", behind(5).get().ends(6), 16);
        due.is("7 NIGHT 1, the least END", behind(1).get().ends(1), 16);
    }

    private static void overFromEndOn() {
        OvenPairs x = behind(5).get();
        x.ends(6);
        due.is("9 one NIGHT is left: not OVER", x.state(3), 0);
        x.ends(5);
        due.is("9 from END on it is OVER", x.state(3), 1);
        x.ends(16);
        due.is("9 not OVER any more", x.state(3), 0);
        due.is("9 16 of 16 are OVER", behind(16).get().state(3), 1);
        due.is("9 15 of 16 aren't", behind(15).get().state(3), 0);
    }

    private static void anewFromAnywhere() {
        due.is("8 at first", new OvenPairs().anew(), 0);
        due.is("8 when it is OVER", behind(16).get().anew(), 16);
        twins.alike("8 NIGHT 0, SCORE 0, all at home, and nothing else", behind(0), x -> {
            for (int k = 0; k < 7; k++) x.night();
            for (int o = 0; o < 6; o++) x.change(o, 4, o + 4);
            due.is("8 what NIGHT was", x.anew(), 7);
        }, x -> { });
        twins.alike("8 twice", Twins::rich, x -> {
            x.anew();
            due.is("8 NIGHT was 0", x.anew(), 0);
        }, x -> x.anew());
        OvenPairs x = Twins.rich();
        x.anew();
        due.is("8 END, z, REPORTS, RULES, ROWS, THE TAPE stay", x.state(1) + x.many(3) + x.many(1) + x.many(4) + x.many(5), 26);
        due.is("8 z stays", x.seed(0), Twins.rich().seed(0));
    }

    private static void whatOfState() {
        for (int what : new int[] {-1, 5, LEAST, MOST}) twins.still("9 BAD " + what, x -> x.state(what), OvenPairs.BAD);
        for (int what = 0; what <= 4; what++) {
            int one = what;
            twins.asks("9 what " + what, x -> x.state(one));
        }
        OvenPairs x = full();
        due.is("9 all six at home", x.state(4), 63);
        for (int o = 0; o < 6; o++) {
            x.change(o, 4, 1);
            due.is("9 all but " + o, x.state(4), 63 - (1 << o));
            x.change(o, 4, 0);
        }
    }

    private static void theLastOf512Calls() {
        OvenPairs x = full();
        for (int call = 7; call < 512; call++) x.seed(call);
        due.is("the 512th call", x.seed(0), 511);
        OvenPairs y = full();
        for (int call = 7; call < 511; call += 2) {
            due.is("a NIGHT at call " + call, y.night() >= 0 ? 1 : 0, 1);
            due.is("and back at call " + (call + 1), y.anew(), 1);
        }
        due.is("the 511th call", y.on(16) == full().on(16) ? 1 : 0, 1);
        due.is("the 512th call", y.state(4), 63);
    }

    /** The twins would see it, if a refused call changed something after all. */
    private static void twinsHold() {
        twins.changes("oven", x -> x.oven(1, 1, 1, 1));
        for (int what = 1; what <= 4; what++) {
            int one = what;
            twins.changes("change " + what, x -> x.change(1, one, 2));
        }
        twins.changes("remake", x -> x.remake(3, 1));
        twins.changes("ends", x -> x.ends(10));
        twins.changes("feed", x -> x.feed(32, 1));
        twins.changes("rules", x -> x.rules());
        twins.changes("night", x -> x.night());
        twins.changes("report", x -> x.report(1, 1, 1, 1));
        twins.changes("forget", x -> x.forget());
        twins.changes("seed", x -> x.seed(7));
        twins.changes("prove", x -> x.prove(2));
        twins.changes("alterRow", x -> x.alterRow(2, 2, 9));
        twins.changes("sheet", x -> x.sheet(3, 0, 0));
        twins.changes("write", x -> x.write(1, 0, 1));
        twins.changes("shelf", x -> x.shelf(3, 0, 0));
        twins.changes("act", x -> x.act(0, 0, 0));
        twins.changes("keep", x -> x.keep());
        twins.changes("again", x -> x.again());
    }
}
