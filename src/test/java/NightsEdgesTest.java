import java.util.function.Supplier;

/** The edges of promises 12 to 21: NIGHTS, THE REST, where and how warm one had better be, WEDDINGS, CHAINS. */
public final class NightsEdgesTest {
    private static final Due due = new Due();
    private static final Twins twins = new Twins(due);
    private static final int LEAST = Integer.MIN_VALUE, MOST = Integer.MAX_VALUE;
    private static final int WIDOWED = 1, RANGE = 2, DOORED = 3, PORTABLE = 4, RAKE = 5;

    public static void main(String[] args) {
        nightToTheEnd();
        boundsOfOn();
        fewerIfItIsOver();
        badOvens();
        firstNightOfGoing();
        howOften();
        placesToTheEnds();
        warmsToTheEnds();
        ofSeveralTheLeast();
        bestBetweenTheEnds();
        askedOnly();
        pairsFromNoneToAll();
        longAboveZero();
        weddingsFromNoneToThree();
        morePairsThenMoreLonging();
        theFirstOfThem();
        noneInTwoOfThem();
        noneCountsAsSix();
        chainsFromNoneToFive();
        ofSeveralSetsTheLeast();
        inAllOfTheRest();
        badWhats();
        due.end();
    }

    private static OvenPairs couple() {
        OvenPairs x = new OvenPairs();
        x.oven(PORTABLE, 5, 0, 3);
        x.oven(PORTABLE, 5, 0, 4);
        return x;
    }

    private static OvenPairs alike(int ovens, int kind, int warm) {
        OvenPairs x = new OvenPairs();
        for (int k = 0; k < ovens; k++) x.oven(kind, warm, 7, 1);
        return x;
    }

    private static Supplier<OvenPairs> over() {
        return () -> {
            OvenPairs x = Twins.rich();
            x.ends(1);
            return x;
        };
    }

    // ---- nights

    private static void nightToTheEnd() {
        OvenPairs x = couple();
        x.ends(1);
        due.is("12 the only NIGHT", x.night(), 0);
        due.is("12 STATE: it is OVER", x.night(), OvenPairs.STATE);
        x.ends(2);
        due.is("12 the last NIGHT", x.night(), 0);
        twins.still("12 STATE: it is OVER", over(), y -> y.night(), OvenPairs.STATE);
        OvenPairs late = alike(6, DOORED, 9);
        late.ends(16);
        for (int k = 0; k < 16; k++) due.is("12 NIGHT " + k, late.night(), 18);
        due.is("12 NIGHT 16 is none", late.night(), OvenPairs.STATE);
        due.is("12 nobody there", new OvenPairs().night(), 0);
    }

    private static void boundsOfOn() {
        for (int n : new int[] {-1, 17, LEAST, MOST}) {
            twins.still("13 BAD " + n, x -> x.on(n), OvenPairs.BAD);
            due.is("13 BAD of nobody", new OvenPairs().on(n), OvenPairs.BAD);
        }
        OvenPairs x = alike(6, DOORED, 9);
        x.ends(16);
        for (int n = 0; n <= 16; n++) due.is("13 " + n, x.on(n), 18 * n);
        due.is("13 of nobody", new OvenPairs().on(16), 0);
    }

    private static void fewerIfItIsOver() {
        OvenPairs x = alike(1, DOORED, 9);
        for (int n = 0; n <= 16; n++) due.is("13 END is 12: " + n, x.on(n), 3 * Math.min(n, 12));
        x.night();
        due.is("13 eleven are left", x.on(16), 33);
        due.is("13 eleven of them", x.on(11), 33);
        due.is("13 ten of them", x.on(10), 30);
        x.ends(1);
        for (int n = 0; n <= 16; n++) due.is("13 OVER", x.on(n), 0);
        due.is("13 BAD ahead of that", x.on(17), OvenPairs.BAD);
    }

    private static void badOvens() {
        for (int o : new int[] {-1, 4, 5, 6, 7, LEAST, MOST}) {
            twins.still("14 BAD " + o, x -> x.goes(o), OvenPairs.BAD);
            twins.still("15 BAD " + o, x -> x.often(o), OvenPairs.BAD);
            twins.still("16 BAD " + o, x -> x.placeFor(o), OvenPairs.BAD);
            twins.still("17 BAD " + o, x -> x.warmFor(o), OvenPairs.BAD);
            twins.still("20 BAD " + o, x -> x.mate(o), OvenPairs.BAD);
            twins.still("14 BAD ahead of NONE " + o, over(), x -> x.goes(o), OvenPairs.BAD);
        }
        OvenPairs nobody = new OvenPairs();
        due.is("14 to 20 nobody at all", nobody.goes(0) + nobody.often(0) + nobody.placeFor(0) + nobody.warmFor(0) + nobody.mate(0), -5);
        OvenPairs six = alike(6, DOORED, 5);
        due.is("14 the last of six", six.goes(5), OvenPairs.NONE);
        due.is("14 no seventh", six.goes(6), OvenPairs.BAD);
        due.is("15 the last of six", six.often(5), 0);
        due.is("16 the last of six", six.placeFor(5), 0);
        due.is("17 the last of six", six.warmFor(5), 0);
        due.is("20 the last of six", six.mate(5), 6);
    }

    private static void firstNightOfGoing() {
        due.is("14 in NIGHT 0", couple().goes(1), 0);
        for (int away = 1; away <= 9; away++) {
            OvenPairs x = couple();
            x.change(1, 4, away);
            due.is("14 when the other one is back, AWAY " + away, x.goes(0), away - 1);
            due.is("14 it, too", x.goes(1), away - 1);
            x.ends(away);
            due.is("14 in the last NIGHT", x.goes(0), away - 1);
            if (away > 1) x.ends(away - 1);
            due.is("14 NONE: END is ahead of it", x.goes(0), away > 1 ? OvenPairs.NONE : 0);
        }
        OvenPairs late = couple();
        late.ends(16);
        Due.tell(late, "oven if night<15 stay;");
        due.is("14 in NIGHT 15", late.goes(0), 15);
        late.ends(15);
        due.is("14 NONE of 15 NIGHTS", late.goes(0), OvenPairs.NONE);
        due.is("14 NONE: one alone", alike(1, PORTABLE, 9).goes(0), OvenPairs.NONE);
        OvenPairs done = couple();
        done.night();
        due.is("14 not the one that went by", done.goes(0), 2);
    }

    private static void howOften() {
        OvenPairs x = couple();
        x.ends(16);
        due.is("15 each second one of 16", x.often(0), 8);
        x.ends(15);
        due.is("15 of 15", x.often(0), 8);
        x.ends(1);
        due.is("15 of one", x.often(0), 1);
        x.ends(16);
        x.change(1, 2, 15);
        due.is("15 of 16, five NIGHTS each", x.often(0), 4);
        x.change(1, 4, 9);
        due.is("15 of the last eight", x.often(1), 2);
        Due.tell(x, "oven stay;");
        due.is("15 never", x.often(0), 0);
        due.is("15 OVER", over().get().often(0), 0);
        due.is("14 OVER", over().get().goes(0), OvenPairs.NONE);
    }

    // ---- where it had better stand, how warm it had better be

    private static OvenPairs stayers(String rule) {
        OvenPairs x = couple();
        Due.tell(x, rule);
        return x;
    }

    private static void placesToTheEnds() {
        due.is("16 the greatest PLACE alone", stayers("oven if place=15 stay;").placeFor(0), 15);
        due.is("16 the least PLACE alone", stayers("oven if not place>0 and number=1 stay;").placeFor(1), 0);
        for (int p = 0; p <= 15; p++) {
            due.is("16 PLACE " + p + " alone", stayers("oven if number=0 and place=" + p + " stay;").placeFor(0), p);
        }
        due.is("16 no PLACE does", stayers("oven if number=0 and place=16 stay;").placeFor(0), 0);
    }

    private static void warmsToTheEnds() {
        for (int w = 0; w <= 9; w++) {
            OvenPairs x = stayers("oven if number=0 and warm=" + w + " stay;");
            // at WARM 0 nobody longs for it, so that is as good
            due.is("17 WARM " + w + " alone", x.warmFor(0), 0);
            OvenPairs y = new OvenPairs();
            // both long for the third, which would go with none of them
            y.oven(PORTABLE, 5, 0, 9);
            y.oven(PORTABLE, 5, 0, 9);
            y.oven(DOORED, 5, 0, 1);
            Due.tell(y, "doored if not warm=" + w + " stay;");
            due.is("17 only WARM " + w + " is free", y.warmFor(2), w > 5 ? w : 0);
        }
        OvenPairs z = new OvenPairs();
        z.oven(PORTABLE, 8, 0, 9);
        z.oven(PORTABLE, 8, 0, 9);
        z.oven(DOORED, 5, 0, 1);
        due.is("17 the greatest WARM alone", z.warmFor(2), 9);
        z.change(0, 1, 9);
        due.is("17 WARM 9, of which the second one takes the first", z.warmFor(2), 9);
        z.change(1, 1, 9);
        due.is("17 no WARM does", z.warmFor(2), 0);
    }

    private static void ofSeveralTheLeast() {
        due.is("16 all are the same", alike(6, DOORED, 5).placeFor(3), 0);
        due.is("17 all are the same", alike(6, DOORED, 5).warmFor(3), 0);
        due.is("16 of 4 to 15 the least", stayers("oven if number=0 and place>3 stay;").placeFor(0), 4);
        due.is("16 of 14 and 15 the least", stayers("oven if number=0 and place>13 stay;").placeFor(0), 14);
        due.is("16 of 0 and 15 the least", stayers("oven if number=0 and (place<1 or place=15) stay;").placeFor(0), 0);
        due.is("16 OVER: of all the least", over().get().placeFor(0), 0);
        due.is("17 OVER: of all the least", over().get().warmFor(0), 0);
    }

    private static void bestBetweenTheEnds() {
        OvenPairs x = new OvenPairs();
        x.ends(4);
        x.oven(PORTABLE, 5, 4, 9);
        x.oven(WIDOWED, 9, 4, 2);
        // the widowed one longs 5 - FAR - 3: near ones go off for 2 NIGHTS; from FAR 2 on both bake
        due.is("16 2 off on the lesser side", x.placeFor(1), 0);
        x.change(0, 2, 1);
        due.is("16 0 and 2 are too near: 3", x.placeFor(1), 3);
        x.change(0, 2, 2);
        due.is("16 2 off at 0", x.placeFor(1), 0);
        x.change(0, 2, 0);
        due.is("16 2 off above", x.placeFor(1), 2);
        OvenPairs back = new OvenPairs();
        back.ends(3);
        back.oven(PORTABLE, 9, 0, 9);
        back.oven(PORTABLE, 9, 0, 9);
        Due.tell(back, "oven if night>0 stay;");
        // FAR 0 to 3: back in NIGHT 2; further: not
        due.is("16 as near as the other one", back.placeFor(1), 0);
        back.change(0, 2, 15);
        due.is("16 12 of 12 to 15", back.placeFor(1), 12);
    }

    private static void askedOnly() {
        for (int o = 0; o < 4; o++) {
            int one = o;
            twins.asks("14 of " + o, x -> x.goes(one));
            twins.asks("15 of " + o, x -> x.often(one));
            twins.asks("16 of " + o, x -> x.placeFor(one));
            twins.asks("17 of " + o, x -> x.warmFor(one));
            twins.asks("20 of " + o, x -> x.mate(one));
        }
        twins.asks("13", x -> x.on(16));
        twins.asks("18", x -> x.pairs());
        twins.asks("19", x -> x.weddings(1));
        twins.asks("21", x -> x.chains(0));
    }

    // ---- weddings

    private static void pairsFromNoneToAll() {
        int[] pairs = {0, 0, 1, 3, 6, 10, 15};
        for (int n = 0; n <= 6; n++) {
            due.is("18 all of " + n, alike(n, PORTABLE, 1).pairs(), pairs[n]);
            due.is("18 none of " + n, alike(n, DOORED, 9).pairs(), 0);
            due.is("18 cold ones, " + n, alike(n, PORTABLE, 0).pairs(), 0);
            due.is("19 pairs of " + n, alike(n, PORTABLE, 1).weddings(0), n / 2);
            due.is("19 LONGING of " + n, alike(n, PORTABLE, 1).weddings(1), n / 2 * 2);
        }
    }

    private static void longAboveZero() {
        OvenPairs x = new OvenPairs();
        x.oven(WIDOWED, 9, 0, 1);
        x.oven(PORTABLE, 3, 0, 1);
        due.is("18 LONGING 0 of one", x.pairs(), 0);
        due.is("19 LONGING 0 of one", x.weddings(0), 0);
        due.is("20 LONGING 0 of one", x.mate(0), 6);
        x.change(1, 1, 4);
        due.is("18 LONGING 1 of one", x.pairs(), 1);
        due.is("19 LONGING 1 of one", x.weddings(1), 10);
        due.is("20 LONGING 1 of one", x.mate(0), 1);
        x.remake(0, PORTABLE);
        x.remake(1, WIDOWED);
        x.change(0, 1, 3);
        due.is("18 LONGING 0 of the other one", x.pairs(), 0);
        x.change(0, 1, 4);
        due.is("18 LONGING 1 of the other one", x.pairs(), 1);
        x.change(0, 4, 9);
        x.change(1, 4, 1);
        Due.tell(x, "oven stay;");
        due.is("18 wherever they are, whatever their WILL", x.pairs(), 1);
        due.is("19 wherever they are, whatever their WILL", x.weddings(0), 1);
        due.is("20 wherever they are, whatever their WILL", x.mate(1), 0);
        Due.tell(x, "oven shy;");
        due.is("18 LONGING 1 of a shy one", x.pairs(), 1);
    }

    private static void weddingsFromNoneToThree() {
        due.is("19 the most LONGING", alike(6, RAKE, 9).weddings(1), 60);
        due.is("19 the most pairs", alike(6, RAKE, 9).weddings(0), 3);
        due.is("19 nobody", new OvenPairs().weddings(0) + new OvenPairs().weddings(1), 0);
        OvenPairs x = alike(6, DOORED, 9);
        for (int o = 0; o < 6; o++) due.is("20 none", x.mate(o), 6);
        x.remake(4, PORTABLE);
        x.remake(5, PORTABLE);
        due.is("19 the last two alone", x.weddings(0) * 100 + x.weddings(1), 118);
        due.is("20 the last two", x.mate(4) * 10 + x.mate(5), 54);
        due.is("20 the others", x.mate(0) + x.mate(3), 12);
    }

    private static void morePairsThenMoreLonging() {
        OvenPairs x = new OvenPairs();
        // widowed ones: WARM less FAR less 3. 0-1: 1 + 1; 2-3: 1 + 1; 1-2: 6 + 6
        x.oven(WIDOWED, 9, 0, 1);
        x.oven(WIDOWED, 9, 5, 1);
        x.oven(WIDOWED, 9, 5, 1);
        x.oven(WIDOWED, 9, 10, 1);
        due.is("18 0-1, 0-2, 1-2, 1-3, 2-3", x.pairs(), 5);
        due.is("19 two pairs with 4 ahead of one with 12", x.weddings(0) * 100 + x.weddings(1), 204);
        due.is("20 FIRST", x.mate(0) * 1000 + x.mate(1) * 100 + x.mate(2) * 10 + x.mate(3), 1032);
        x.change(3, 1, 8);
        // 1-3 and 2-3 fall away: 8 - 5 - 3
        due.is("18 0-1, 0-2, 1-2", x.pairs(), 3);
        due.is("19 one pair, that with more LONGING", x.weddings(0) * 100 + x.weddings(1), 112);
        due.is("20 FIRST", x.mate(0) * 1000 + x.mate(1) * 100 + x.mate(2) * 10 + x.mate(3), 6216);
    }

    private static void theFirstOfThem() {
        int[][] mates = {{}, {6}, {1, 0}, {1, 0, 6}, {1, 0, 3, 2}, {1, 0, 3, 2, 6}, {1, 0, 3, 2, 5, 4}};
        for (int n = 1; n <= 6; n++) {
            OvenPairs x = alike(n, PORTABLE, 5);
            for (int o = 0; o < n; o++) due.is("20 FIRST of " + n + ", OVEN " + o, x.mate(o), mates[n][o]);
        }
        OvenPairs x = alike(6, PORTABLE, 5);
        x.remake(0, WIDOWED);
        x.change(0, 2, 0);
        x.change(5, 2, 0);
        // 0 longs for 5 alone: 5 - 3
        int[] last = {5, 2, 1, 4, 3, 0};
        for (int o = 0; o < 6; o++) due.is("20 0 has the last, OVEN " + o, x.mate(o), last[o]);
    }

    private static void noneInTwoOfThem() {
        OvenPairs x = new OvenPairs();
        // the widowed one reaches 3 alone, which 1 could have as well as 4
        x.oven(WIDOWED, 5, 0, 1);
        x.oven(PORTABLE, 9, 15, 1);
        x.oven(DOORED, 9, 15, 1);
        x.oven(PORTABLE, 9, 0, 1);
        x.oven(PORTABLE, 9, 15, 1);
        int[] mates = {3, 4, 6, 0, 1};
        for (int o = 0; o < 5; o++) due.is("20 nobody has two mates, OVEN " + o, x.mate(o), mates[o]);
        due.is("19 6 and 5, 9 and 9", x.weddings(0) * 100 + x.weddings(1), 229);
        x.remake(2, PORTABLE);
        x.oven(DOORED, 9, 15, 1);
        x.remake(5, PORTABLE);
        // 1, 2, 4, 5 are alike; 0 has 3
        int[] three = {3, 2, 1, 0, 5, 4};
        for (int o = 0; o < 6; o++) due.is("20 nobody has two mates, OVEN " + o + " of six", x.mate(o), three[o]);
    }

    private static void noneCountsAsSix() {
        OvenPairs x = new OvenPairs();
        x.oven(RANGE, 5, 1, 1);
        x.oven(RANGE, 4, 3, 1);
        x.oven(PORTABLE, 9, 2, 1);
        due.is("18 1 longs for 0: 5 - 2; 0 not for 1", x.pairs(), 2);
        // 0-2: 8 + 5; 1-2: 8 + 4
        due.is("20 more LONGING", x.mate(0) * 100 + x.mate(1) * 10 + x.mate(2), 260);
        x.change(1, 2, 2);
        // 1-2: 9 + 4: the same LONGING
        due.is("19 LONGING", x.weddings(1), 13);
        due.is("20 a mate ahead of none", x.mate(0) * 100 + x.mate(1) * 10 + x.mate(2), 260);
        x.change(0, 2, 3);
        x.change(2, 1, 8);
        // 0-2: 7 + 5; 1-2: 8 + 4
        due.is("20 still a mate ahead of none", x.mate(0) * 100 + x.mate(1) * 10 + x.mate(2), 260);
        x.change(0, 2, 4);
        due.is("20 less LONGING: none", x.mate(0) * 100 + x.mate(1) * 10 + x.mate(2), 621);
    }

    // ---- chains

    private static void chainsFromNoneToFive() {
        int[] sets = {0, 0, 1, 3, 7, 15, 31};
        for (int n = 0; n <= 6; n++) {
            due.is("21 all but one of " + n, alike(n, PORTABLE, 5).chains(0), sets[n]);
            due.is("21 how many of " + n, alike(n, PORTABLE, 5).chains(1), Math.max(0, n - 1));
            due.is("21 none of " + n, alike(n, DOORED, 5).chains(0), 0);
            due.is("21 how many, none of " + n, alike(n, DOORED, 5).chains(1), 0);
        }
        due.is("21 OVER", over().get().chains(0) + over().get().chains(1), 0);
    }

    private static void ofSeveralSetsTheLeast() {
        OvenPairs x = alike(4, WIDOWED, 9);
        // 0-1 far from 2-3: one of each
        x.change(2, 2, 15);
        x.change(3, 2, 15);
        due.is("21 the lesser one of each", x.chains(0), 5);
        due.is("21 two", x.chains(1), 2);
        OvenPairs star = new OvenPairs();
        for (int k = 0; k < 5; k++) star.oven(RANGE, 5 + k % 2, 3 * k, 1);
        star.oven(PORTABLE, 9, 6, 1);
        for (int k = 0; k < 5; k++) star.change(k, 1, 9 - k);
        // no two ranges long for one another: the last one alone, though its set is greater than 1, 3, ..
        due.is("21 the fewest ahead of the least", star.chains(0), 32);
        due.is("21 one", star.chains(1), 1);
    }

    private static void inAllOfTheRest() {
        OvenPairs x = couple();
        x.oven(PORTABLE, 5, 0, 1);
        x.change(2, 4, 9);
        due.is("21 the third comes back in NIGHT 8", x.chains(0), 3);
        x.ends(8);
        due.is("21 it doesn't till 8", x.chains(0), 1);
        x.ends(9);
        due.is("21 it does till 9", x.chains(0), 3);
        OvenPairs y = couple();
        Due.tell(y, "oven if night<11 stay;");
        due.is("21 in the last NIGHT alone", y.chains(0), 1);
        y.ends(11);
        due.is("21 ahead of it", y.chains(0), 0);
        OvenPairs away = couple();
        away.change(0, 4, 9);
        away.change(1, 4, 9);
        away.ends(8);
        due.is("21 AWAY all the time", away.chains(1), 0);
    }

    private static void badWhats() {
        for (int what : new int[] {-1, 2, LEAST, MOST}) {
            twins.still("19 BAD " + what, x -> x.weddings(what), OvenPairs.BAD);
            twins.still("21 BAD " + what, x -> x.chains(what), OvenPairs.BAD);
            due.is("19 BAD of nobody", new OvenPairs().weddings(what), OvenPairs.BAD);
            due.is("21 BAD of nobody", new OvenPairs().chains(what), OvenPairs.BAD);
        }
        for (int what = 0; what <= 1; what++) {
            due.is("19 of nobody", new OvenPairs().weddings(what), 0);
            due.is("21 of nobody", new OvenPairs().chains(what), 0);
        }
    }
}
