import java.util.List;
import java.util.function.Supplier;
import java.util.function.ToIntFunction;

/** The edges of promises 22 to 28: PLANS, KEPT, BAR, the GAME. */
public final class PlansEdgesTest {
    private static final Due due = new Due();
    private static final Twins twins = new Twins(due);
    private static final int LEAST = Integer.MIN_VALUE, MOST = Integer.MAX_VALUE;
    private static final int RANGE = 2, DOORED = 3, PORTABLE = 4, RAKE = 5;

    public static void main(String[] args) {
        badN();
        badSets();
        plansOfNone();
        fewerNightsIfItIsOver();
        mostWorthOfFour();
        mostWays();
        ithToTheEnds();
        actsFromNoneToTheLast();
        theLesserActFirst();
        actsForTheNightsThatAreLeft();
        chainedInOneNightAlone();
        keptFromNoneToFour();
        keptNone();
        barsTheLeast();
        barsByOthersThanKept();
        gameByTurns();
        playTheLeast();
        gameTillItIsOver();
        askedOnly();
        due.end();
    }

    private static OvenPairs couple() {
        OvenPairs x = new OvenPairs();
        x.oven(PORTABLE, 5, 0, 3);
        x.oven(PORTABLE, 5, 0, 4);
        return x;
    }

    private static OvenPairs alike(int ovens, int kind, int warm) {
        OvenPairs x = new OvenPairs();
        for (int k = 0; k < ovens; k++) x.oven(kind, warm, 7, 9);
        return x;
    }

    private static Supplier<OvenPairs> left(int nights) {
        return () -> {
            OvenPairs x = Twins.rich();
            x.ends(nights + 1);
            return x;
        };
    }

    private static void badN() {
        for (int n : new int[] {-1, 5, LEAST, MOST}) {
            twins.still("22 BAD n " + n, x -> x.best(n), OvenPairs.BAD);
            twins.still("23 BAD n " + n, x -> x.ith(n, 0), OvenPairs.BAD);
            twins.still("24 BAD n " + n, x -> x.ways(n), OvenPairs.BAD);
            twins.still("25 BAD n " + n, x -> x.kept(n, 0), OvenPairs.BAD);
            twins.still("26 BAD n " + n, x -> x.bars(n, 1), OvenPairs.BAD);
            twins.still("27 BAD n " + n, x -> x.game(n), OvenPairs.BAD);
            twins.still("28 BAD n " + n, x -> x.play(n), OvenPairs.BAD);
            twins.still("28 BAD n ahead of NONE " + n, left(0), x -> x.play(n), OvenPairs.BAD);
        }
        twins.still("27 BAD n 0", x -> x.game(0), OvenPairs.BAD);
        twins.still("28 BAD n 0", x -> x.play(0), OvenPairs.BAD);
        twins.still("27 BAD n 0, OVER", left(0), x -> x.game(0), OvenPairs.BAD);
        for (int i : new int[] {-1, 4, LEAST, MOST}) {
            for (int n = 0; n <= 4; n++) {
                int one = n;
                twins.still("23 BAD i " + i, x -> x.ith(one, i), OvenPairs.BAD);
            }
            twins.still("23 BAD i ahead of NONE " + i, left(0), x -> x.ith(4, i), OvenPairs.BAD);
        }
    }

    private static void badSets() {
        int[] most = {0, 1, 3, 7, 15, 31, 63};
        for (int n = 0; n <= 6; n++) {
            OvenPairs x = alike(n, DOORED, 5);
            due.is("25 all of " + n, x.kept(1, most[n]), 0);
            due.is("26 all of " + n, x.bars(1, most[n]), OvenPairs.NONE);
            for (int set : new int[] {most[n] + 1, 64, -1, LEAST, MOST, 1 << 30, -64}) {
                due.is("25 BAD set " + set + " of " + n, x.kept(1, set), OvenPairs.BAD);
                due.is("26 BAD set " + set + " of " + n, x.bars(1, set), OvenPairs.BAD);
            }
        }
        for (int set : new int[] {16, 31, 32, -1, LEAST}) {
            twins.still("25 BAD set " + set, x -> x.kept(2, set), OvenPairs.BAD);
            twins.still("26 BAD set " + set, x -> x.bars(2, set), OvenPairs.BAD);
            twins.still("25 BAD set when it is OVER " + set, left(0), x -> x.kept(2, set), OvenPairs.BAD);
        }
    }

    private static void plansOfNone() {
        for (Supplier<OvenPairs> town : List.<Supplier<OvenPairs>>of(Twins::rich, Twins::bare, left(0))) {
            due.is("22 n 0", town.get().best(0), 0);
            due.is("24 n 0: one PLAN", town.get().ways(0), 1);
            for (int i = 0; i < 4; i++) {
                int one = i;
                twins.still("23 NONE of n 0", town, x -> x.ith(0, one), OvenPairs.NONE);
            }
            due.is("25 n 0, nobody asked for", town.get().kept(0, 0), 0);
            due.is("26 n 0, nobody asked for", town.get().bars(0, 0), OvenPairs.NONE);
        }
        OvenPairs x = couple();
        due.is("25 n 0: all are at home", x.kept(0, 3), 0);
        x.change(1, 4, 1);
        due.is("25 n 0: NONE, as it is now", x.kept(0, 3), OvenPairs.NONE);
        due.is("25 n 0: the other one", x.kept(0, 1), 0);
        due.is("26 n 0: who is away", x.bars(0, 3), 1);
        due.is("26 n 0: the other one", x.bars(0, 1), OvenPairs.NONE);
    }

    private static void fewerNightsIfItIsOver() {
        int[] ways = {1, 2, 4, 8, 16};
        for (int left = 0; left <= 4; left++) {
            OvenPairs x = couple();
            x.ends(5);
            for (int k = 0; k < 5 - left; k++) x.night();
            x.change(0, 4, 0);
            x.change(1, 4, 0);
            for (int n = 0; n <= 4; n++) {
                int nights = Math.min(n, left);
                String told = n + " of " + left + " left";
                due.is("22 " + told, x.best(n), 7 * nights);
                due.is("24 " + told, x.ways(n), ways[nights]);
                for (int i = 0; i < 4; i++) due.is("23 " + told, x.ith(n, i), i < nights ? 1 : OvenPairs.NONE);
                // two NIGHTS off, so each second one must be chained
                due.is("25 " + told, x.kept(n, 3), new int[] {0, 1, 2, 1, 2}[nights]);
                due.is("26 " + told, x.bars(n, 3), OvenPairs.NONE);
                if (n > 0) due.is("27 " + told, x.game(n), nights == 0 ? 0 : 7);
            }
        }
    }

    private static void mostWorthOfFour() {
        due.is("22 the most that four can be WORTH", alike(6, DOORED, 9).best(4), 456);
        due.is("22 the least", alike(6, RAKE, 0).best(0), 0);
        OvenPairs x = alike(6, DOORED, 9);
        for (int o = 0; o < 6; o++) x.change(o, 4, 9);
        due.is("22 all are away", x.best(4), 0);
        due.is("24 all are away", x.ways(4), 2401);
        due.is("23 all are away", x.ith(4, 3), 0);
        for (int o = 0; o < 6; o++) x.change(o, 4, 4);
        due.is("22 all are back in the fourth", x.best(4), 114);
        due.is("22 not in the third", x.best(3), 0);
    }

    private static void mostWays() {
        int power = 1;
        for (int n = 0; n <= 4; n++) {
            due.is("24 each PLAN of six OVENS, n " + n, alike(6, DOORED, 9).ways(n), power);
            due.is("24 the one PLAN of nobody, n " + n, new OvenPairs().ways(n), 1);
            power *= 7;
        }
        OvenPairs x = couple();
        due.is("24 two of three ACTS", x.ways(1), 2);
        x.change(1, 4, 2);
        due.is("24 one is away: all three ACTS", x.ways(1), 3);
        due.is("24 then two of three", x.ways(2), 6);
        // away at 2, 1: in the second NIGHT both are at home again
        due.is("22 then two of three", x.best(2), 3 + 7);
    }

    private static void ithToTheEnds() {
        OvenPairs x = couple();
        for (int n = 1; n <= 4; n++) {
            due.is("23 the last ACT of " + n, x.ith(n, n - 1), 1);
            if (n < 4) twins.still("23 NONE: one more than " + n, PlansEdgesTest::couple, last(n), OvenPairs.NONE);
        }
        due.is("23 i 3 of 4", x.ith(4, 3), 1);
        twins.still("23 NONE of OVER", left(0), y -> y.ith(4, 0), OvenPairs.NONE);
        twins.still("23 NONE: two are left", left(2), y -> y.ith(4, 2), OvenPairs.NONE);
        due.is("23 the second of two left", left(2).get().ith(4, 1) >= 0 ? 1 : 0, 1);
        due.is("23 0 of nobody", new OvenPairs().ith(1, 0), 0);
    }

    private static ToIntFunction<OvenPairs> last(int n) {
        return x -> x.ith(n, n);
    }

    /** The last OVEN alone is longed for: who chains it has all at home. */
    private static OvenPairs star(int ranges) {
        OvenPairs x = new OvenPairs();
        for (int k = 0; k < ranges; k++) x.oven(RANGE, 9 - k, 0, 1);
        x.oven(PORTABLE, 9, 0, 1);
        return x;
    }

    private static void actsFromNoneToTheLast() {
        for (int ranges = 2; ranges <= 5; ranges++) {
            OvenPairs x = star(ranges);
            due.is("23 the last OVEN is chained", x.ith(1, 0), ranges + 1);
            due.is("22 all are at home", x.best(1), 2 * ranges + 1);
            due.is("24 by one PLAN", x.ways(1), 1);
            due.is("25 one ACT", x.kept(1, (2 << ranges) - 1), 1);
            due.is("27 likewise", x.game(1), 2 * ranges + 1);
            due.is("28 likewise", x.play(1), ranges + 1);
        }
        due.is("23 ACT 0", alike(6, DOORED, 9).ith(1, 0), 0);
        due.is("28 ACT 0", alike(6, DOORED, 9).play(1), 0);
    }

    private static void theLesserActFirst() {
        OvenPairs x = couple();
        x.oven(DOORED, 0, 0, 1);
        due.is("23 1 or 2: the lesser", x.ith(1, 0), 1);
        Due.tell(x, "oven if night=0 stay;");
        due.is("23 any: 0", x.ith(2, 0), 0);
        due.is("23 then 1 or 2", x.ith(2, 1), 1);
        due.is("24 four by two", x.ways(2), 8);
        OvenPairs y = couple();
        y.oven(RAKE, 5, 0, 9);
        // the rake wants the first, the first the second (of two the least): 1 chained, the others go
        due.is("23 the rake bakes", y.ith(1, 0), 0);
        due.is("22 the rake alone", y.best(1), 9);
        due.is("24 or by chaining it", y.ways(1), 2);
    }

    private static void actsForTheNightsThatAreLeft() {
        OvenPairs x = new OvenPairs();
        x.oven(RAKE, 2, 8, 7);
        x.oven(RAKE, 9, 0, 9);
        x.oven(PORTABLE, 1, 0, 2);
        Due.tell(x, "oven if night=0 stay;");
        // 18; then 1 and 2 go off for 2 NIGHTS, 7; then 2 alone is at home, if it is chained.
        // As good: 18; 1 chained, 0 and 2 go off for 4 NIGHTS, 9. In more NIGHTS that wouldn't be so
        int[] acts = {0, 0, 0, 3};
        for (int i = 0; i < 4; i++) due.is("23 FIRST of four, ACT " + i, x.ith(4, i), acts[i]);
        due.is("22 18, 0, 7, 2", x.best(4), 27);
    }

    private static void chainedInOneNightAlone() {
        OvenPairs x = couple();
        due.is("22 one chained in NIGHT 0 goes in NIGHT 1", x.kept(2, 3), 2);
        x.sheet(0, 0, 2);
        x.write(0, 0, 1);
        due.is("44 7 and 0", x.wouldBe(0, 0, 2), 7);
    }

    private static void keptFromNoneToFour() {
        OvenPairs x = couple();
        x.change(1, 2, 15);
        // off for five NIGHTS: a chain in each one
        for (int n = 0; n <= 4; n++) {
            due.is("25 " + n + " ACTS", x.kept(n, 3), n);
            due.is("25 of one of them", x.kept(n, 1), n);
            due.is("25 of the other", x.kept(n, 2), n);
            due.is("25 of nobody", x.kept(n, 0), 0);
        }
        for (int n = 0; n <= 4; n++) due.is("25 who never goes", alike(6, DOORED, 9).kept(n, 63), 0);
    }

    private static void keptNone() {
        OvenPairs x = couple();
        x.change(1, 4, 4);
        for (int n = 0; n <= 4; n++) {
            due.is("25 back behind the fourth, n " + n, x.kept(n, 2), n == 4 ? 1 : OvenPairs.NONE);
            due.is("26 back behind the fourth, n " + n, x.bars(n, 2), n == 4 ? OvenPairs.NONE : 1);
        }
        twins.still("25 NONE: the third is away", x1 -> x1.kept(3, 4), OvenPairs.NONE);
        twins.still("25 NONE: OVER", left(0), x1 -> x1.kept(4, 4), OvenPairs.NONE);
        x.change(1, 4, 5);
        due.is("25 not in four", x.kept(4, 2), OvenPairs.NONE);
        due.is("26 not in four", x.bars(4, 2), 1);
    }

    private static void barsTheLeast() {
        OvenPairs x = alike(6, DOORED, 9);
        for (int o = 0; o < 6; o++) x.change(o, 4, 9);
        for (int o = 0; o < 6; o++) {
            due.is("26 the least of those from " + o + " on", x.bars(4, 63 & -(1 << o)), o);
            due.is("26 it alone", x.bars(4, 1 << o), o);
            due.is("25 it alone", x.kept(4, 1 << o), OvenPairs.NONE);
        }
        x.change(0, 4, 0);
        due.is("26 the first that is", x.bars(4, 63), 1);
        twins.still("26 NONE: nobody is asked for", y -> y.bars(4, 0), OvenPairs.NONE);
        twins.still("26 NONE: each is so behind some", y -> y.bars(1, 3), OvenPairs.NONE);
    }

    private static void barsByOthersThanKept() {
        OvenPairs x = alike(4, PORTABLE, 5);
        due.is("25 all four at once", x.kept(1, 15), OvenPairs.NONE);
        due.is("26 each by a PLAN of its own", x.bars(1, 15), OvenPairs.NONE);
        due.is("25 three of four", x.kept(1, 14), OvenPairs.NONE);
        due.is("25 two of four: nobody chained", x.kept(1, 12), 0);
        due.is("25 the first two: one of them chained lets the other one go", x.kept(1, 3), OvenPairs.NONE);
    }

    private static void gameByTurns() {
        OvenPairs x = couple();
        x.change(1, 2, 15);
        for (int n = 1; n <= 4; n++) {
            due.is("27 one chains, the other one doesn't: they are off to the end, n " + n, x.game(n), 7);
        }
        due.is("27 nobody", new OvenPairs().game(4), 0);
        due.is("27 the most", alike(6, DOORED, 9).game(4), 456);
        OvenPairs ring = new OvenPairs();
        // whoever is chained, the others go: the first one doesn't chain, the other one does
        ring.oven(PORTABLE, 7, 0, 3);
        ring.oven(PORTABLE, 9, 5, 4);
        ring.oven(1, 8, 0, 4);
        due.is("27 ring, 1: all three", ring.game(1), 9);
        due.is("27 ring, 2: all three, then the widowed one alone", ring.game(2), 11);
        due.is("28 ring", ring.play(1) + ring.play(2), 0);
    }

    private static void playTheLeast() {
        due.is("28 1 or 2", couple().play(1), 1);
        due.is("28 any", alike(6, DOORED, 9).play(4), 0);
        due.is("28 of nobody", new OvenPairs().play(4), 0);
        due.is("28 NONE of nobody", overBare().play(4), OvenPairs.NONE);
        due.is("28 the greatest ACT", star(5).play(1), 6);
        OvenPairs x = couple();
        OvenPairs rakes = alike(2, RAKE, 5);
        // 0, away, 18; or 18, away till the end: the first one plays in NIGHTS 0 and 2
        due.is("27 back in NIGHT 2, or off in NIGHT 1", rakes.game(3), 18);
        due.is("28 the least of both", rakes.play(3), 0);
        due.is("28 NIGHT 1 is WORTH nothing", rakes.play(2), 1);
        Due.tell(x, "oven if number=0 and night=0 stay;");
        due.is("28 the least of three", x.play(1), 0);
        // the second one plays in NIGHT 1: they go, whatever was done
        due.is("28 the least of three", x.play(2), 0);
    }

    private static OvenPairs overBare() {
        OvenPairs x = new OvenPairs();
        x.ends(1);
        x.night();
        return x;
    }

    private static void gameTillItIsOver() {
        for (int n = 1; n <= 4; n++) {
            int one = n;
            twins.still("27 OVER: 0", left(0), x -> x.game(one), 0);
            twins.still("28 NONE: OVER", left(0), x -> x.play(one), OvenPairs.NONE);
            due.is("27 one NIGHT is left", left(1).get().game(n), left(1).get().best(1));
            due.is("28 one NIGHT is left", left(1).get().play(n), left(1).get().ith(1, 0));
        }
        OvenPairs x = couple();
        x.change(0, 4, 3);
        x.change(1, 4, 3);
        for (int n = 1; n <= 4; n++) {
            // back in the third NIGHT, when the first one plays; in the fourth the other one lets them go
            due.is("27 back in the third, n " + n, x.game(n), n >= 3 ? 7 : 0);
            due.is("28 all the same now, n " + n, x.play(n), 0);
        }
        x.ends(2);
        due.is("27 not till 2", x.game(4), 0);
    }

    private static void askedOnly() {
        for (int n = 0; n <= 3; n++) {
            int one = n;
            twins.asks("22", x -> x.best(one));
            twins.asks("23", x -> x.ith(one, 0));
            twins.asks("24", x -> x.ways(one));
            twins.asks("25", x -> x.kept(one, 7));
            twins.asks("26", x -> x.bars(one, 15));
            twins.asks("27", x -> x.game(one));
            twins.asks("28", x -> x.play(one));
        }
    }
}
