import java.util.function.Supplier;

/** The edges of promises 29 to 35: REPORTS, STRANGE OVENS, LIAR, LOT. */
public final class GameEdgesTest {
    private static final Due due = new Due();
    private static final Twins twins = new Twins(due);
    private static final int LEAST = Integer.MIN_VALUE, MOST = Integer.MAX_VALUE;
    private static final int WIDOWED = 1, RANGE = 2, DOORED = 3, PORTABLE = 4, RAKE = 5;

    public static void main(String[] args) {
        boundsOfReport();
        badReport();
        sixReports();
        forgetAll();
        fromLeastToMost();
        eachReportIsSo();
        endsOfLonging();
        spanOfAllAndNone();
        leastPlaceThenLeastWarm();
        badSpan();
        liarTheLeast();
        liarNone();
        liarButForOne();
        boundsOfSeed();
        lotByUnsignedShift();
        lotLeavesByOvensAndOne();
        lotOver();
        badTimes();
        timesFromNoneToForty();
        worthOrMore();
        zGoesOn();
        timesOver();
        askedOnly();
        due.end();
    }

    // ---- reports

    private static OvenPairs told(int many) {
        OvenPairs x = Twins.rich();
        x.forget();
        for (int k = 0; k < many; k++) x.report(PORTABLE, k, 0, 9 - k);
        return x;
    }

    private static void boundsOfReport() {
        int[][] edges = {{1, 5, 0, 0}, {5, 5, 0, 0}, {3, 0, 0, 0}, {3, 15, 0, 0}, {3, 5, -20, 0}, {3, 5, 0, 20}, {3, 5, -20, -20},
            {3, 5, 20, 20}, {3, 5, -20, 20}, {3, 5, 7, 7}, {3, 5, -19, 19}};
        for (int[] e : edges) {
            OvenPairs x = new OvenPairs();
            due.is("29 just inside", x.report(e[0], e[1], e[2], e[3]), 0);
            due.is("29 it is there", x.many(3), 1);
        }
    }

    private static void badReport() {
        int[][] bad = {{0, 5, 0, 0}, {6, 5, 0, 0}, {-1, 5, 0, 0}, {LEAST, 5, 0, 0}, {MOST, 5, 0, 0},
            {3, -1, 0, 0}, {3, 16, 0, 0}, {3, LEAST, 0, 0}, {3, MOST, 0, 0},
            {3, 5, -21, 0}, {3, 5, LEAST, 0}, {3, 5, 21, 20}, {3, 5, 21, 21}, {3, 5, 0, 21}, {3, 5, 0, MOST}, {3, 5, -21, -21},
            {3, 5, -20, -21}, {3, 5, LEAST, LEAST}, {3, 5, MOST, MOST},
            {3, 5, 1, 0}, {3, 5, 0, -1}, {3, 5, 20, 19}, {3, 5, -19, -20}, {3, 5, 20, -20}};
        for (int[] b : bad) {
            twins.still("29 BAD", x -> x.report(b[0], b[1], b[2], b[3]), OvenPairs.BAD);
            due.is("29 BAD ahead of FULL", told(6).report(b[0], b[1], b[2], b[3]), OvenPairs.BAD);
        }
    }

    private static void sixReports() {
        OvenPairs x = new OvenPairs();
        for (int k = 0; k < 6; k++) due.is("29 its number", x.report(k % 5 + 1, k, k, k), k);
        twins.still("29 FULL: a seventh", () -> told(6), y -> y.report(1, 1, 1, 1), OvenPairs.FULL);
        twins.still("29 BAD ahead of FULL", () -> told(6), y -> y.report(1, 1, 2, 1), OvenPairs.BAD);
        due.is("29 the sixth", told(5).report(1, 1, 1, 1), 5);
        due.is("31 the sixth counts", told(6).span(0), 16 * 5);
    }

    private static void forgetAll() {
        for (int many = 0; many <= 6; many++) {
            OvenPairs x = told(many);
            due.is("30 how many there were", x.forget(), many);
            due.is("30 there are none", x.many(3), 0);
            due.is("30 none to forget", x.forget(), 0);
            due.is("31 all FIT", x.span(0), 160);
            due.is("29 the first again", x.report(1, 1, 1, 1), 0);
        }
        twins.alike("30 nothing else changes", () -> told(0), x -> {
            for (int k = 0; k < 6; k++) x.report(1, 1, 1, 1);
            x.forget();
        }, x -> { });
    }

    private static int fit(int kind, int place, int least, int most) {
        OvenPairs x = new OvenPairs();
        x.report(kind, place, least, most);
        return x.span(0);
    }

    private static void fromLeastToMost() {
        due.is("31 LEAST itself, and MOST", fit(PORTABLE, 0, 3, 5), 48);
        due.is("31 LEAST alone", fit(PORTABLE, 0, 3, 3), 16);
        due.is("31 0", fit(PORTABLE, 0, 0, 0), 16);
        due.is("31 9", fit(PORTABLE, 0, 9, 9), 16);
        due.is("31 10", fit(PORTABLE, 0, 10, 20), 0);
        due.is("31 below 0", fit(PORTABLE, 0, -20, -1), 0);
        due.is("31 all", fit(PORTABLE, 15, -20, 20), 160);
        due.is("31 0 to 9", fit(PORTABLE, 15, 0, 9), 160);
    }

    private static void eachReportIsSo() {
        OvenPairs x = new OvenPairs();
        x.report(PORTABLE, 0, 6, 20);
        due.is("31 WARM 6 to 9", x.span(0), 64);
        x.report(WIDOWED, 15, -20, -8);
        // WARM less FAR less 3 is -8 or less: FAR is 11 or more with WARM 6, .., 14 or more with 9
        due.is("31 PLACE 0 to 4, 3, 2, 1", x.span(0), 5 + 4 + 3 + 2);
        x.report(RANGE, 0, 8, 9);
        // WARM less PLACE is 8 or more: 8 at 0, 9 at 0 and 1
        due.is("31 three of these", x.span(0), 3);
        x.report(DOORED, 3, -1, -1);
        due.is("31 a doored one always longs -1", x.span(0), 3);
        x.report(RAKE, 9, 9, 9);
        due.is("31 WARM 9", x.span(0), 2);
        x.report(WIDOWED, 0, -20, 5);
        due.is("31 one", x.span(0), 1);
        due.is("31 its PLACE", x.span(1), 1);
        due.is("31 its WARM", x.span(2), 9);
    }

    private static void endsOfLonging() {
        due.is("31 widowed, the most", fit(WIDOWED, 5, 6, 20), 1);
        due.is("31 widowed, more than the most", fit(WIDOWED, 5, 7, 20), 0);
        due.is("31 widowed, the least at an end", fit(WIDOWED, 0, -20, -18), 1);
        due.is("31 widowed, less than the least", fit(WIDOWED, 0, -20, -19), 0);
        OvenPairs further = new OvenPairs();
        further.report(WIDOWED, 0, -20, -19);
        first(further, "a PLACE 16 is none", 0, OvenPairs.NONE, OvenPairs.NONE);
        due.is("32 but for it all FIT", further.liar(), 0);
        OvenPairs warmer = new OvenPairs();
        warmer.report(PORTABLE, 0, 10, 10);
        first(warmer, "a WARM 10 is none", 0, OvenPairs.NONE, OvenPairs.NONE);
        due.is("31 range, the most", fit(RANGE, 5, 9, 20), 1);
        due.is("31 range, the least at an end: 5 less 15", fit(RANGE, 0, -20, -10), 1);
        due.is("31 range, less than the least", fit(RANGE, 0, -20, -11), 0);
        // WARM 0 to 4 at 16 PLACES; and WARM less FAR is -1 at FAR 6 to 10
        due.is("31 range, -1", fit(RANGE, 0, -1, -1), 85);
        due.is("31 range, 0 to 20 from WARM 5 on", fit(RANGE, 0, 0, 20), 6 + 7 + 8 + 9 + 10);
        due.is("31 doored, -1", fit(DOORED, 0, -1, -1), 160);
        due.is("31 doored, 0", fit(DOORED, 0, 0, 20), 0);
        due.is("31 doored, -2", fit(DOORED, 0, -20, -2), 0);
        due.is("31 a rake's number is greater: 9", fit(RAKE, 0, 9, 9), 16);
        due.is("31 a rake's number is greater: not 10 or 11", fit(RAKE, 0, 10, 11), 0);
        due.is("31 a rake's number is greater: 0", fit(RAKE, 0, 0, 0), 16);
    }

    private static void first(OvenPairs x, String told, int many, int place, int warm) {
        due.is("31 how many, " + told, x.span(0), many);
        due.is("31 PLACE, " + told, x.span(1), place);
        due.is("31 WARM, " + told, x.span(2), warm);
    }

    private static void spanOfAllAndNone() {
        first(new OvenPairs(), "no REPORTS", 160, 0, 0);
        OvenPairs x = new OvenPairs();
        x.report(DOORED, 0, 0, 0);
        first(x, "none FITS", 0, OvenPairs.NONE, OvenPairs.NONE);
        OvenPairs y = new OvenPairs();
        y.report(WIDOWED, 15, 6, 6);
        first(y, "the last of all", 1, 15, 9);
        OvenPairs z = new OvenPairs();
        z.report(WIDOWED, 15, -18, -18);
        first(z, "the first of all", 1, 0, 0);
    }

    private static void leastPlaceThenLeastWarm() {
        OvenPairs x = new OvenPairs();
        x.report(WIDOWED, 8, 4, 6);
        // 9 at 6 to 10, 8 at 7 to 9, 7 at 8
        first(x, "a lesser PLACE ahead of a lesser WARM", 9, 6, 9);
        x.report(PORTABLE, 0, 7, 8);
        first(x, "then 8 at 7", 4, 7, 8);
        x.report(WIDOWED, 8, 5, 20);
        first(x, "8 at 8 alone", 1, 8, 8);
        x.forget();
        x.report(RANGE, 0, 4, 20);
        first(x, "of one PLACE the least WARM", 6 + 5 + 4 + 3 + 2 + 1 - 1, 0, 5);
    }

    private static void badSpan() {
        for (int what : new int[] {-1, 3, LEAST, MOST}) {
            twins.still("31 BAD " + what, x -> x.span(what), OvenPairs.BAD);
            twins.still("31 BAD ahead of NONE " + what, GameEdgesTest::torn, x -> x.span(what), OvenPairs.BAD);
        }
        twins.still("31 none FITS", GameEdgesTest::torn, x -> x.span(0), 0);
        twins.still("31 NONE, PLACE", GameEdgesTest::torn, x -> x.span(1), OvenPairs.NONE);
        twins.still("31 NONE, WARM", GameEdgesTest::torn, x -> x.span(2), OvenPairs.NONE);
    }

    /** Two REPORTS that can't both be so. */
    private static OvenPairs torn() {
        OvenPairs x = told(0);
        x.report(DOORED, 0, 0, 0);
        x.report(DOORED, 0, 1, 1);
        return x;
    }

    private static void liarTheLeast() {
        for (int wrong = 0; wrong < 6; wrong++) {
            OvenPairs x = new OvenPairs();
            for (int k = 0; k < 6; k++) x.report(PORTABLE, k, k == wrong ? 0 : 5, k == wrong ? 4 : 5);
            due.is("32 the one that is wrong, " + wrong, x.liar(), wrong);
        }
        OvenPairs two = new OvenPairs();
        two.report(PORTABLE, 0, 5, 5);
        two.report(PORTABLE, 0, 6, 6);
        due.is("32 either of two: the least", two.liar(), 0);
        OvenPairs later = new OvenPairs();
        later.report(PORTABLE, 0, 0, 9);
        later.report(PORTABLE, 0, 5, 5);
        later.report(PORTABLE, 0, 6, 6);
        due.is("32 but for the first none would: the second", later.liar(), 1);
        OvenPairs one = new OvenPairs();
        one.report(DOORED, 0, 0, 0);
        due.is("32 the only one: but for it all FIT", one.liar(), 0);
    }

    private static void liarNone() {
        due.is("32 NONE: no REPORTS", new OvenPairs().liar(), OvenPairs.NONE);
        twins.still("32 NONE: no such REPORT", GameEdgesTest::torn, x -> x.liar(), OvenPairs.NONE);
        twins.still("32 NONE: some FIT", () -> told(6), x -> x.liar(), OvenPairs.NONE);
        OvenPairs x = new OvenPairs();
        x.report(WIDOWED, 15, 6, 6);
        due.is("32 NONE: the very last one FITS", x.liar(), OvenPairs.NONE);
        x.report(WIDOWED, 14, 5, 5);
        due.is("32 NONE: it FITS still", x.liar(), OvenPairs.NONE);
        x.forget();
        x.report(PORTABLE, 0, 5, 5);
        x.report(PORTABLE, 0, 6, 6);
        x.report(PORTABLE, 0, 7, 7);
        due.is("32 NONE: of three any two are at odds", x.liar(), OvenPairs.NONE);
    }

    private static void liarButForOne() {
        OvenPairs x = new OvenPairs();
        x.report(WIDOWED, 15, 6, 6);
        x.report(PORTABLE, 0, 9, 9);
        x.report(PORTABLE, 0, 8, 8);
        // but for 2 only 15 with 9 would FIT, the last of all
        due.is("32 but for it the very last one would", x.liar(), 2);
    }

    // ---- lots

    private static void boundsOfSeed() {
        OvenPairs x = new OvenPairs();
        due.is("33 1 at first", x.seed(LEAST), 1);
        due.is("33 the least", x.seed(MOST), LEAST);
        due.is("33 the most", x.seed(-1), MOST);
        due.is("33 below 0 is no refusal", x.seed(0), -1);
        due.is("33 0", x.seed(0), 0);
        twins.alike("33 there and back", Twins::rich, y -> y.seed(y.seed(LEAST)), y -> { });
    }

    /** The document's z, reckoned in longs. */
    private static int nextZ(int z) {
        long wide = (z * 1103515245L + 12345L) & 0xffffffffL;
        return (int) wide;
    }

    private static int actOf(int z, int ovens) {
        return (int) ((z & 0xffffffffL) / 65536 % (ovens + 1));
    }

    private static OvenPairs mixed(int ovens) {
        OvenPairs x = new OvenPairs();
        for (int k = 0; k < ovens; k++) x.oven(k % 5 + 1, 9 - k, k, k + 3);
        x.sheet(0, 0, 1);
        return x;
    }

    private static void lotByUnsignedShift() {
        for (int z : new int[] {1, 0, -1, LEAST, MOST, 2, 3, 4, 5, 6, 7, 12345, -12345, 1 << 30, 1 << 16, -1 << 16, 65535}) {
            for (int ovens = 0; ovens <= 6; ovens++) {
                int many = ovens;
                int act = actOf(nextZ(z), ovens);
                twins.alike("34 z " + z + " of " + ovens, () -> mixed(many), x -> {
                    x.seed(z);
                    x.lot();
                    due.is("34 z becomes", x.seed(0), nextZ(z));
                }, x -> {
                    x.write(0, 0, act);
                    x.goAll(0, 0, 1);
                    x.write(0, 0, 0);
                    x.seed(0);
                });
            }
        }
    }

    private static void lotLeavesByOvensAndOne() {
        // each ACT from 0 to the last one is drawn some time
        for (int ovens = 0; ovens <= 6; ovens++) {
            OvenPairs x = new OvenPairs();
            for (int k = 0; k < ovens; k++) x.oven(DOORED, 0, 0, 1);
            int z = 1, seen = 0;
            for (int k = 0; k < 60; k++) {
                z = nextZ(z);
                seen |= 1 << actOf(z, ovens);
                due.is("34 nobody goes", x.lot(), 3 * ovens);
                if (x.state(3) == 1) x.anew();
            }
            due.is("34 all ACTS come", seen, (2 << ovens) - 1);
            due.is("34 z behind 60", x.seed(0), z);
        }
    }

    private static Supplier<OvenPairs> over() {
        return () -> {
            OvenPairs x = Twins.rich();
            x.ends(1);
            return x;
        };
    }

    private static void lotOver() {
        twins.still("34 STATE: it is OVER", over(), x -> x.lot(), OvenPairs.STATE);
        OvenPairs x = Twins.rich();
        x.ends(2);
        due.is("34 the last NIGHT", x.lot() >= 0 ? 1 : 0, 1);
        due.is("34 then STATE", x.lot(), OvenPairs.STATE);
        due.is("34 NIGHT", x.state(0), 2);
    }

    private static void badTimes() {
        for (int n : new int[] {0, 41, -1, LEAST, MOST}) {
            twins.still("35 BAD n " + n, x -> x.times(n, 0), OvenPairs.BAD);
            twins.still("35 BAD n, OVER " + n, over(), x -> x.times(n, 0), OvenPairs.BAD);
        }
        for (int v : new int[] {-1, 1000, LEAST, MOST}) {
            twins.still("35 BAD v " + v, x -> x.times(1, v), OvenPairs.BAD);
        }
        due.is("35 the least n and v", Twins.rich().times(1, 0), 1);
        due.is("35 the most n and v", Twins.rich().times(40, 999), 0);
    }

    private static void timesFromNoneToForty() {
        for (int n = 1; n <= 40; n++) {
            due.is("35 always, n " + n, mixed(6).times(n, 0), n);
            due.is("35 never, n " + n, mixed(1).times(n, 999), 0);
        }
    }

    private static void worthOrMore() {
        OvenPairs x = new OvenPairs();
        x.oven(DOORED, 0, 0, 1);
        due.is("35 12 NIGHTS of 3: 36", x.times(5, 36), 5);
        due.is("35 37", x.times(5, 37), 0);
        due.is("35 35", x.times(5, 35), 5);
        x.ends(16);
        for (int k = 0; k < 5; k++) x.oven(DOORED, 0, 0, 9);
        // 16 NIGHTS of 3 and 95
        due.is("35 1568 is 999 or more", x.times(40, 999), 40);
        x.night();
        x.ends(11);
        due.is("35 ten NIGHTS of 98: 980", x.times(40, 980), 40);
        due.is("35 981", x.times(40, 981), 0);
    }

    private static int byHand(int z, int times, int v, OvenPairs x) {
        int reached = 0;
        x.seed(z);
        for (int k = 0; k < times; k++) {
            int worth = 0;
            while (x.state(3) == 0) worth += x.lot();
            if (worth >= v) reached++;
            x.anew();
        }
        return reached;
    }

    private static void zGoesOn() {
        for (int z : new int[] {1, 7, LEAST, -99}) {
            for (int v = 40; v <= 90; v += 10) {
                OvenPairs x = mixed(4);
                x.seed(z);
                x.ends(5);
                int got = x.times(12, v);
                due.is("35 z is as it was", x.seed(0), z);
                OvenPairs y = mixed(4);
                y.ends(5);
                due.is("35 as lot() would have it, z " + z + " v " + v, got, byHand(z, 12, v, y));
            }
        }
        OvenPairs x = mixed(4);
        due.is("35 each from how it is now: AWAY, too", x.times(40, 1), 40);
        for (int o = 0; o < 4; o++) x.change(o, 4, 9);
        x.ends(8);
        due.is("35 all are away to the end", x.times(40, 1), 0);
    }

    private static void timesOver() {
        for (int n : new int[] {1, 40}) {
            twins.still("35 OVER: 0 or more", over(), x -> x.times(n, 0), n);
            twins.still("35 OVER: 1 or more", over(), x -> x.times(n, 1), 0);
        }
    }

    private static void askedOnly() {
        for (int what = 0; what <= 2; what++) {
            int one = what;
            twins.asks("31", x -> x.span(one));
        }
        twins.asks("32", x -> x.liar());
        twins.asks("35", x -> x.times(40, 30));
    }
}
