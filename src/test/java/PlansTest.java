/** Promises 22 to 26. */
public final class PlansTest {
    private static final Due due = new Due();

    public static void main(String[] args) {
        nobody();
        couple();
        over();
        worthBeforeActs();
        actsFollowTheTown();
        oneActAlone();
        noActAtAll();
        keptAndBars();
        refusals();
        due.end();
    }

    private static void nobody() {
        OvenPairs x = new OvenPairs();
        for (int n = 0; n <= 4; n++) {
            due.is("22 nobody", x.best(n), 0);
            due.is("24 nobody", x.ways(n), 1);
            due.is("25 nobody", x.kept(n, 0), 0);
            due.is("26 nobody", x.bars(n, 0), OvenPairs.NONE);
        }
        due.is("23 nobody", x.ith(4, 3), 0);
    }

    /** Two that go off for 2 NIGHTS each time, and bake 3 and 4. */
    private static OvenPairs two() {
        OvenPairs x = new OvenPairs();
        x.oven(4, 5, 0, 3);
        x.oven(4, 5, 0, 4);
        return x;
    }

    private static void couple() {
        OvenPairs x = two();
        int power = 1;
        for (int n = 0; n <= 4; n++) {
            due.is("22 chained in each", x.best(n), 7 * n);
            due.is("24 either of them", x.ways(n), power);
            for (int i = 0; i < 4; i++) due.is("23 " + n + " " + i, x.ith(n, i), i < n ? 1 : OvenPairs.NONE);
            power *= 2;
        }
        due.is("22 asked only", x.state(0) + x.state(2) + x.state(4), 3);
        Due.tell(x, "oven if number = 0 and night = 1 stay;");
        due.is("22 one stays by itself", x.best(3), 21);
        due.is("23 then nobody is chained", x.ith(3, 0) * 100 + x.ith(3, 1) * 10 + x.ith(3, 2), 101);
        due.is("24 whoever is", x.ways(3), 12);
    }

    private static void over() {
        OvenPairs x = two();
        x.ends(2);
        due.is("22 two NIGHTS are left", x.best(4), 14);
        due.is("23 the second", x.ith(4, 1), 1);
        due.is("23 no third", x.ith(4, 2), OvenPairs.NONE);
        due.is("24 two NIGHTS", x.ways(4), 4);
        due.is("25 two NIGHTS", x.kept(4, 3), 2);
        x.night();
        due.is("22 away", x.best(4), 0);
        due.is("24 whatever is done", x.ways(4), 3);
        due.is("25 away", x.kept(4, 1), OvenPairs.NONE);
        due.is("26 away", x.bars(4, 2), 1);
        x.night();
        due.is("22 OVER", x.best(4), 0);
        due.is("23 OVER", x.ith(4, 0), OvenPairs.NONE);
        due.is("24 OVER", x.ways(4), 1);
        due.is("25 OVER, and away", x.kept(4, 1), OvenPairs.NONE);
        due.is("25 OVER", x.kept(4, 0), 0);
        due.is("26 OVER", x.bars(4, 3), 0);
    }

    /** Rakes bake in even NIGHTS alone. */
    private static void worthBeforeActs() {
        OvenPairs x = new OvenPairs();
        x.oven(5, 5, 0, 9);
        x.oven(5, 5, 0, 9);
        due.is("22 the odd NIGHT is worth nothing", x.best(2), 18);
        due.is("23 so nobody need be chained in it", x.ith(2, 0) * 10 + x.ith(2, 1), 10);
        due.is("22 even NIGHTS", x.best(3), 36);
        due.is("23 in odd ones it must be chained, too", x.ith(3, 0) * 100 + x.ith(3, 1) * 10 + x.ith(3, 2), 111);
        x.ends(2);
        due.is("22 the second bakes nothing", x.best(2), 18);
        due.is("23 so nobody is chained in it", x.ith(2, 0) * 10 + x.ith(2, 1), 10);
        due.is("24 any ACT in it", x.ways(2), 6);
    }

    private static void actsFollowTheTown() {
        OvenPairs x = two();
        x.change(1, 4, 2);
        due.is("22 one is away, then both bake", x.best(2), 10);
        due.is("23 chained when it is back", x.ith(2, 0) * 10 + x.ith(2, 1), 1);
        due.is("23 and then on", x.ith(4, 1) * 100 + x.ith(4, 2) * 10 + x.ith(4, 3), 111);
        due.is("26 it is back behind two", x.bars(2, 2), OvenPairs.NONE);
        due.is("26 not behind one", x.bars(1, 2), 1);
        x.ends(2);
        due.is("26 two are left", x.bars(4, 2), OvenPairs.NONE);
        OvenPairs far = two();
        far.change(1, 2, 8);
        due.is("25 a chain in each of four NIGHTS", far.kept(4, 3), 4);
    }

    /** Both ranges would go with the portable, but not with one another: only the last one chained keeps all. */
    private static void oneActAlone() {
        OvenPairs x = new OvenPairs();
        x.oven(2, 5, 0, 1);
        x.oven(2, 4, 0, 1);
        x.oven(4, 9, 0, 1);
        due.is("22 all bake", x.best(3), 15);
        due.is("23 the last one", x.ith(3, 0) * 100 + x.ith(3, 1) * 10 + x.ith(3, 2), 333);
        due.is("24 one PLAN", x.ways(3), 1);
        due.is("25 each time", x.kept(2, 7), 2);
        due.is("25 or when they are back", x.kept(3, 7), 1);
        due.is("26 it is at home by that ACT alone", x.bars(1, 4), OvenPairs.NONE);
        due.is("27 then the other one lets two go", x.game(2), 7);
        due.is("28 the last one", x.play(2), 3);
        due.is("28 the last one", x.play(1), 3);
    }

    /** The first longs for the second, that for the third, that for the first: whoever is chained, the others go. */
    private static OvenPairs ring() {
        OvenPairs x = new OvenPairs();
        x.oven(4, 7, 0, 3);
        x.oven(4, 9, 5, 4);
        x.oven(1, 8, 0, 4);
        return x;
    }

    private static void noActAtAll() {
        OvenPairs x = ring();
        for (int n = 1; n <= 4; n++) {
            due.is("22 nobody goes", x.best(n), 9 * n);
            due.is("23 nobody is chained", x.ith(n, n - 1), 0);
            due.is("24 in one PLAN", x.ways(n), 1);
            due.is("25 none is needed", x.kept(n, 7), 0);
        }
        due.is("27 the other one chains", x.game(2), 11);
        due.is("28 the first doesn't", x.play(2), 0);
        x.ends(2);
        due.is("27 to END", x.game(4), 11);
        due.is("24 to END", x.ways(4), 1);
        x.ends(1);
        due.is("27 one NIGHT", x.game(4), 9);
        due.is("24 one NIGHT", x.ways(4), 1);
        due.is("22 one NIGHT", x.best(4), 9);
    }

    private static void keptAndBars() {
        OvenPairs x = two();
        due.is("25 now", x.kept(0, 3), 0);
        due.is("25 one chain", x.kept(1, 1), 1);
        due.is("25 two chains", x.kept(2, 3), 2);
        due.is("25 they come back in the third", x.kept(3, 3), 1);
        due.is("25 and in the fourth", x.kept(4, 3), 2);
        due.is("25 nobody is asked for", x.kept(4, 0), 0);
        due.is("26 both can be", x.bars(4, 3), OvenPairs.NONE);
        x.oven(3, 0, 0, 1);
        due.is("25 one that never goes", x.kept(4, 4), 0);
        x.change(1, 4, 3);
        due.is("25 back in the third NIGHT, if one is chained", x.kept(3, 2), 1);
        due.is("25 not in two", x.kept(2, 2), OvenPairs.NONE);
        due.is("25 nor with another one", x.kept(2, 7), OvenPairs.NONE);
        due.is("26 who isn't back", x.bars(2, 7), 1);
        due.is("26 of the others nobody", x.bars(2, 5), OvenPairs.NONE);
        x.change(2, 4, 9);
        due.is("26 the least of two", x.bars(2, 7), 1);
        due.is("26 the other one", x.bars(2, 5), 2);
        due.is("26 now", x.bars(0, 6), 1);
        x.change(0, 4, 5);
        due.is("26 the first isn't back in four", x.bars(4, 1), 0);
        x.change(0, 4, 0);
        due.is("26 asked only", x.state(4), 1);
        OvenPairs y = new OvenPairs();
        for (int k = 0; k < 4; k++) y.oven(4, 5, 0, 1);
        // all four long alike: 0 and 1 go; if one of them is chained, the other one goes with 2
        due.is("25 one ACT isn't enough for all", y.kept(1, 15), OvenPairs.NONE);
        due.is("26 yet each can be at home", y.bars(1, 15), OvenPairs.NONE);
    }

    private static void refusals() {
        OvenPairs x = two();
        for (int n : new int[] {-1, 5, Integer.MIN_VALUE, Integer.MAX_VALUE}) {
            due.is("22 BAD", x.best(n), OvenPairs.BAD);
            due.is("23 BAD", x.ith(n, 0), OvenPairs.BAD);
            due.is("24 BAD", x.ways(n), OvenPairs.BAD);
            due.is("25 BAD", x.kept(n, 0), OvenPairs.BAD);
            due.is("26 BAD", x.bars(n, 0), OvenPairs.BAD);
        }
        due.is("23 BAD i", x.ith(4, 4), OvenPairs.BAD);
        due.is("23 BAD i", x.ith(4, -1), OvenPairs.BAD);
        due.is("23 BAD ahead of NONE", x.ith(0, 4), OvenPairs.BAD);
        for (int set : new int[] {4, 7, 32, 64, -1, Integer.MIN_VALUE}) {
            due.is("25 BAD set", x.kept(1, set), OvenPairs.BAD);
            due.is("26 BAD set", x.bars(1, set), OvenPairs.BAD);
        }
    }
}
