import java.util.Arrays;
import java.util.function.Supplier;
import java.util.function.ToIntFunction;

/** The edges of promises 40 to 49: SHEETS, ACTS off a SHEET, SHELVES, ACTS of things, THE TRACE. */
public final class HostEdgesTest {
    private static final Due due = new Due();
    private static final Twins twins = new Twins(due);
    private static final int LEAST = Integer.MIN_VALUE, MOST = Integer.MAX_VALUE;
    private static final int[] OUT = {-1, 4, LEAST, MOST};
    private static final int[] LONG = {LEAST, LEAST + 1, -1073741825, -65537, -32769, -32768, -257, -256, -255, -129, -128, -127,
        -15, -14, -13, -12, -11, -2, -1, 0, 1, 2, 126, 127, 128, 255, 256, 257, 32767, 32768, 65535, 65536, 1 << 30, MOST - 1, MOST};

    public static void main(String[] args) {
        boundsOfSheet();
        badSheet();
        allZero();
        missingWhateverN();
        oneSheetOnly();
        refusedWrites();
        narrowedToItsSort();
        refusedItems();
        itemsAsLowAsRefusals();
        refusedGoAll();
        goAllFromNoneToTwenty();
        whatIsNoneIsLeftOut();
        whenItIsOverIsLeftOut();
        whatStoodAheadWasDone();
        refusedWouldBe();
        wouldBeByItems();
        wouldBeFromNoneToSixteen();
        refusedShelves();
        shelvesHold();
        noSuchOneAtTheTime();
        refusedTaken();
        takenAsItsKindOrUnder();
        takenAsARow();
        actOfNoThing();
        actsOfAllThings();
        partedByZero();
        traceToItsEnds();
        boundsOfMany();
        due.end();
    }

    // ---- sheets

    private static void boundsOfSheet() {
        for (int s = 0; s < 4; s++) {
            for (int sort = 0; sort <= 4; sort++) {
                for (int n : new int[] {0, 1, 39, 40}) {
                    OvenPairs x = new OvenPairs();
                    due.is("40 SHEET " + s + " of sort " + sort + ", n " + n, x.sheet(s, sort, n), 1);
                    due.is("42 its last item", x.item(s, sort, n - 1), n == 0 ? -12 : 0);
                    due.is("42 one more", x.item(s, sort, n), -12);
                    due.is("41 its last item", x.write(s, n - 1, 1), n == 0 ? -12 : 1);
                    due.is("41 one more", x.write(s, n, 1), -12);
                }
            }
        }
    }

    private static void badSheet() {
        for (int s : OUT) {
            twins.still("40 BAD SHEET " + s, x -> x.sheet(s, 0, 1), OvenPairs.BAD);
            twins.still("40 BAD SHEET, missing " + s, x -> x.sheet(s, -1, 1), OvenPairs.BAD);
            twins.still("40 BAD SHEET ahead of -14 " + s, x -> x.sheet(s, 0, -1), OvenPairs.BAD);
        }
        for (int sort : new int[] {-2, 5, LEAST, MOST}) {
            twins.still("40 BAD sort " + sort, x -> x.sheet(0, sort, 1), OvenPairs.BAD);
            twins.still("40 BAD sort ahead of -14 " + sort, x -> x.sheet(0, sort, -1), OvenPairs.BAD);
        }
        for (int sort = 0; sort <= 4; sort++) {
            int one = sort;
            for (int n : new int[] {41, 42, MOST}) twins.still("40 BAD n " + n, x -> x.sheet(0, one, n), OvenPairs.BAD);
            for (int n : new int[] {-1, -2, LEAST}) twins.still("40 -14 " + n, x -> x.sheet(0, one, n), -14);
            twins.still("40 -14 of a missing one", x -> x.sheet(3, one, -1), -14);
        }
    }

    private static void allZero() {
        for (int sort = 0; sort <= 4; sort++) {
            OvenPairs x = new OvenPairs();
            x.sheet(1, sort, 40);
            for (int i = 0; i < 40; i++) due.is("40 all 0", x.item(1, sort, i), 0);
            for (int i = 0; i < 40; i++) x.write(1, i, 1);
            x.sheet(1, sort, 39);
            for (int i = 0; i < 39; i++) due.is("40 all 0 again", x.item(1, sort, i), 0);
            x.sheet(1, sort, 40);
            due.is("40 the last, too", x.item(1, sort, 39), 0);
        }
    }

    private static void missingWhateverN() {
        for (int n : new int[] {0, 1, 40, 41, -1, LEAST, MOST}) {
            for (int s = 0; s < 4; s++) {
                OvenPairs x = Twins.rich();
                due.is("40 missing, n " + n, x.sheet(s, -1, n), 1);
                due.is("42 -11", x.item(s, 0, 0), -11);
                due.is("41 -11", x.write(s, 0, 1), -11);
            }
            twins.still("40 missing once more, n " + n, x -> x.sheet(3, -1, n), 1);
        }
        OvenPairs x = new OvenPairs();
        x.sheet(0, 0, 2);
        x.write(0, 1, 7);
        x.sheet(0, -1, 0);
        x.sheet(0, 0, 2);
        due.is("40 all 0 behind missing", x.item(0, 0, 1), 0);
    }

    private static void oneSheetOnly() {
        OvenPairs x = new OvenPairs();
        for (int s = 0; s < 4; s++) x.sheet(s, 2, 40);
        for (int s = 0; s < 4; s++) {
            x.write(s, 0, 10 + s);
            x.write(s, 39, 20 + s);
        }
        for (int s = 0; s < 4; s++) {
            due.is("41 each SHEET has its own first", x.item(s, 2, 0), 10 + s);
            due.is("41 each SHEET has its own last", x.item(s, 2, 39), 20 + s);
            due.is("41 its neighbours are 0", x.item(s, 2, 1) + x.item(s, 2, 38), 0);
        }
    }

    private static void refusedWrites() {
        for (int s : OUT) {
            twins.still("41 BAD SHEET " + s, x -> x.write(s, 0, 1), OvenPairs.BAD);
            twins.still("41 BAD ahead of -12 " + s, x -> x.write(s, -1, 1), OvenPairs.BAD);
        }
        for (int i : new int[] {-1, 0, 40, LEAST, MOST}) twins.still("41 -11 ahead of -12", x -> x.write(3, i, 1), -11);
        for (int i : new int[] {-1, 5, 6, 39, 40, LEAST, MOST}) twins.still("41 -12 " + i, x -> x.write(0, i, 1), -12);
        for (int i : new int[] {-1, 0, 1}) twins.still("41 -12 of none", x -> x.write(2, i, 1), -12);
    }

    private static void narrowedToItsSort() {
        for (int sort = 0; sort <= 4; sort++) {
            OvenPairs x = new OvenPairs();
            x.sheet(2, sort, 40);
            for (int k = 0; k < LONG.length; k++) due.is("41 write " + LONG[k], x.write(2, k, LONG[k]), 1);
            for (int k = 0; k < LONG.length; k++) {
                long v = LONG[k];
                long then = sort == 0 ? Math.floorMod(v + 128, 256L) - 128 : sort == 1 ? Math.floorMod(v + 32768, 65536L) - 32768
                    : sort == 4 ? (v == 0 ? 0 : 1) : v;
                due.is("42 " + v + " as sort " + sort, x.item(2, sort, k), (int) then);
            }
        }
    }

    private static void refusedItems() {
        for (int s : OUT) {
            twins.still("42 BAD SHEET " + s, x -> x.item(s, 0, 0), OvenPairs.BAD);
            twins.still("42 BAD ahead of all " + s, x -> x.item(s, 9, -1), OvenPairs.BAD);
        }
        for (int sort : new int[] {-1, 5, -2, 10, LEAST, MOST}) {
            for (int s = 0; s < 4; s++) {
                int one = s;
                twins.still("42 BAD sort " + sort, x -> x.item(one, sort, 0), OvenPairs.BAD);
                twins.still("42 BAD ahead of -12 " + sort, x -> x.item(one, sort, -1), OvenPairs.BAD);
            }
        }
        for (int sort = 0; sort <= 4; sort++) {
            for (int other = 0; other <= 4; other++) {
                OvenPairs x = new OvenPairs();
                x.sheet(0, sort, 3);
                int want = sort == other ? 0 : -13;
                due.is("42 sort " + sort + " as " + other, x.item(0, other, 2), want);
                due.is("42 -13 ahead of -12", x.item(0, other, 3), sort == other ? -12 : -13);
                due.is("42 -11", x.item(1, other, 0), -11);
                due.is("42 -11 ahead of -12", x.item(1, other, -1), -11);
            }
        }
        for (int i : new int[] {-1, 5, 39, 40, LEAST, MOST}) twins.still("42 -12 " + i, x -> x.item(0, 0, i), -12);
        twins.asks("42", x -> x.item(0, 0, 4));
    }

    private static void itemsAsLowAsRefusals() {
        OvenPairs x = new OvenPairs();
        for (int sort = 0; sort <= 3; sort++) {
            x.sheet(sort, sort, 16);
            for (int v = -15; v <= 0; v++) {
                x.write(sort, -v, v);
                due.is("42 an item may be as low as these", x.item(sort, sort, -v), v);
            }
        }
    }

    // ---- acts off a sheet

    /** Two that go off for 2 NIGHTS, and a SHEET of bytes. */
    private static OvenPairs couple(int... acts) {
        OvenPairs x = new OvenPairs();
        x.oven(4, 5, 0, 3);
        x.oven(4, 5, 0, 4);
        x.sheet(1, 0, acts.length);
        for (int k = 0; k < acts.length; k++) x.write(1, k, acts[k]);
        return x;
    }

    private static int off(OvenPairs x, boolean all, int sheet, int i, int n) {
        return all ? x.goAll(sheet, i, n) : x.wouldBe(sheet, i, n);
    }

    private static void refusedOff(boolean all) {
        String name = all ? "43" : "44";
        for (int s : OUT) twins.still(name + " BAD SHEET " + s, x -> off(x, all, s, 0, 1), OvenPairs.BAD);
        for (int n : new int[] {-1, 21, LEAST, MOST}) {
            for (int s = 0; s < 4; s++) {
                int one = s;
                twins.still(name + " BAD n " + n + ", ahead of all others", x -> off(x, all, one, -1, n), OvenPairs.BAD);
            }
        }
        for (int s = 1; s <= 2; s++) {
            int one = s;
            for (int n : new int[] {0, 1, 20}) {
                twins.still(name + " -13", x -> off(x, all, one, 0, n), -13);
                twins.still(name + " -13 ahead of -12", x -> off(x, all, one, -1, n), -13);
            }
        }
        for (int sort = 1; sort <= 4; sort++) {
            OvenPairs x = couple();
            x.sheet(0, sort, 4);
            due.is(name + " -13 of sort " + sort, off(x, all, 0, 0, 1), -13);
        }
        for (int i : new int[] {-1, 0, 40}) twins.still(name + " -11 ahead of -12", x -> off(x, all, 3, i, 1), -11);
        for (int i : new int[] {-1, -2, 5, 6, LEAST, MOST, MOST - 10, -20}) {
            twins.still(name + " -12, nothing stood ahead " + i, x -> off(x, all, 0, i, 1), -12);
            twins.still(name + " -12, of twenty " + i, x -> off(x, all, 0, i, 20), -12);
        }
        for (int i : new int[] {-1, 0, 4, 5, LEAST, MOST}) {
            twins.still(name + " none of them", x -> off(x, all, 0, i, 0), 0);
        }
    }

    private static void refusedGoAll() {
        refusedOff(true);
    }

    private static void goAllFromNoneToTwenty() {
        int[] twenty = new int[40];
        Arrays.fill(twenty, 2);
        for (int n = 0; n <= 20; n++) {
            OvenPairs x = couple(twenty);
            x.ends(16);
            due.is("43 " + n + " items", x.goAll(1, 20, n), 7 * Math.min(n, 16));
            due.is("43 NIGHT", x.state(0), Math.min(n, 16));
            due.is("43 SCORE", x.state(2), 7 * Math.min(n, 16));
        }
        due.is("43 the last of forty", couple(twenty).goAll(1, 39, 1), 7);
        due.is("43 from the first", couple(1, 0).goAll(1, 0, 1), 7);
        due.is("43 from the second", couple(1, 0).goAll(1, 1, 1), 0);
        OvenPairs most = new OvenPairs();
        for (int k = 0; k < 6; k++) most.oven(3, 9, 0, 9);
        most.sheet(0, 0, 20);
        most.ends(16);
        due.is("43 the most", most.goAll(0, 0, 20), 1824);
    }

    private static void whatIsNoneIsLeftOut() {
        for (int act : new int[] {3, 4, 6, 7, -1, -2, 127, -128}) {
            twins.alike("43 " + act + " is none", () -> couple(act, 1), x -> due.is("43 left out", x.goAll(1, 0, 1), 0), x -> { });
            due.is("43 the next is done", couple(act, 1).goAll(1, 0, 2), 7);
        }
        int[] worths = {0, 7, 7};
        for (int act = 0; act <= 2; act++) {
            OvenPairs x = couple(act);
            due.is("43 ACT " + act, x.goAll(1, 0, 1), worths[act]);
            due.is("43 a NIGHT goes by", x.state(0), 1);
        }
        OvenPairs nobody = new OvenPairs();
        nobody.sheet(0, 0, 3);
        nobody.write(0, 1, 1);
        due.is("43 of nobody", nobody.goAll(0, 0, 3), 0);
        due.is("43 of nobody 0 is an ACT, 1 is none", nobody.state(0), 2);
        OvenPairs six = new OvenPairs();
        for (int k = 0; k < 6; k++) six.oven(3, 9, 0, 9);
        six.sheet(0, 0, 2);
        six.write(0, 0, 6);
        six.write(0, 1, 7);
        due.is("43 of six 6 is an ACT, 7 is none", six.goAll(0, 0, 2), 114);
    }

    private static void whenItIsOverIsLeftOut() {
        OvenPairs x = couple(1, 1, 1, 1);
        x.ends(2);
        due.is("43 OVER behind two of four", x.goAll(1, 0, 4), 14);
        due.is("43 NIGHT", x.state(0), 2);
        twins.alike("43 OVER: nothing is done", () -> {
            OvenPairs y = couple(1, 1);
            y.ends(1);
            y.night();
            return y;
        }, y -> due.is("43 OVER", y.goAll(1, 0, 2), 0), y -> { });
        due.is("43 OVER, -12 all the same", x.goAll(1, 0, 5), -12);
        due.is("43 OVER, -13 all the same", Twins.rich().goAll(1, 0, 5), -13);
    }

    private static void whatStoodAheadWasDone() {
        for (int ahead = 0; ahead <= 3; ahead++) {
            int many = ahead;
            twins.alike("43 -12 behind " + ahead, () -> couple(2, 0, 9), x -> due.is("43 -12", x.goAll(1, 3 - many, many + 1), -12),
                x -> x.goAll(1, 3 - many, many));
            twins.alike("43 -12 behind " + ahead + ", of twenty", () -> couple(2, 0, 9),
                x -> due.is("43 -12", x.goAll(1, 3 - many, 20), -12), x -> x.goAll(1, 3 - many, many));
        }
        twins.alike("43 nothing stood ahead of -1", () -> couple(2, 0, 9), x -> due.is("43 -12", x.goAll(1, -1, 3), -12), x -> { });
    }

    private static void refusedWouldBe() {
        refusedOff(false);
    }

    private static void wouldBeByItems() {
        Supplier<OvenPairs> town = () -> couple(1, 3, 2);
        twins.still("44 an ACT", town, x -> x.wouldBe(1, 0, 1), 7);
        twins.still("44 STATE: 3 is none", town, x -> x.wouldBe(1, 0, 2), OvenPairs.STATE);
        twins.still("44 STATE comes ahead of -12", town, x -> x.wouldBe(1, 0, 4), OvenPairs.STATE);
        twins.still("44 -12 behind ACTS", town, x -> x.wouldBe(1, 2, 2), -12);
        twins.still("44 -12 at once", town, x -> x.wouldBe(1, 3, 1), -12);
        for (int act : new int[] {3, 4, 7, -1, 127, -128}) {
            twins.still("44 STATE: " + act + " is none", () -> couple(act), x -> x.wouldBe(1, 0, 1), OvenPairs.STATE);
        }
        Supplier<OvenPairs> last = () -> {
            OvenPairs x = couple(1, 1);
            x.ends(1);
            return x;
        };
        twins.still("44 the last NIGHT", last, x -> x.wouldBe(1, 0, 1), 7);
        twins.still("44 STATE: OVER ahead of the second", last, x -> x.wouldBe(1, 0, 2), OvenPairs.STATE);
        twins.still("44 STATE: OVER ahead of -12", last, x -> x.wouldBe(1, 0, 3), OvenPairs.STATE);
        twins.still("44 -12 ahead of OVER, by items", last, x -> x.wouldBe(1, 1, 2), -12);
        Supplier<OvenPairs> over = () -> {
            OvenPairs x = last.get();
            x.night();
            return x;
        };
        twins.still("44 STATE: OVER", over, x -> x.wouldBe(1, 0, 1), OvenPairs.STATE);
        twins.still("44 none of them, OVER", over, x -> x.wouldBe(1, 0, 0), 0);
        twins.still("44 -12, OVER", over, x -> x.wouldBe(1, 2, 1), -12);
        due.is("44 0 of nobody", bareSheet().wouldBe(0, 0, 1), 0);
        due.is("44 STATE: 1 of nobody", bareSheet().wouldBe(0, 1, 1), OvenPairs.STATE);
    }

    private static OvenPairs bareSheet() {
        OvenPairs x = new OvenPairs();
        x.sheet(0, 0, 2);
        x.write(0, 1, 1);
        return x;
    }

    private static void wouldBeFromNoneToSixteen() {
        int[] twenty = new int[20];
        Arrays.fill(twenty, 1);
        for (int n = 0; n <= 20; n++) {
            int many = n;
            twins.still("44 " + n + " items", () -> {
                OvenPairs x = couple(twenty);
                x.ends(16);
                return x;
            }, x -> x.wouldBe(1, 0, many), n <= 16 ? 7 * n : OvenPairs.STATE);
        }
        twins.asks("44", x -> x.wouldBe(0, 0, 2));
    }

    // ---- shelves

    private static void refusedShelves() {
        for (int s : OUT) {
            for (int what = 0; what <= 2; what++) {
                int one = what;
                twins.still("45 BAD SHELF " + s, x -> x.shelf(s, one, 0), OvenPairs.BAD);
            }
            twins.still("45 BAD SHEET " + s, x -> x.shelf(0, 1, s), OvenPairs.BAD);
        }
        for (int what : new int[] {-1, 3, LEAST, MOST}) twins.still("45 BAD what " + what, x -> x.shelf(0, what, 0), OvenPairs.BAD);
        for (int o : new int[] {-1, 4, 5, 6, LEAST, MOST}) twins.still("45 BAD OVEN " + o, x -> x.shelf(0, 0, o), OvenPairs.BAD);
        due.is("45 BAD: nobody at all", new OvenPairs().shelf(0, 0, 0), OvenPairs.BAD);
    }

    private static void shelvesHold() {
        OvenPairs x = new OvenPairs();
        for (int k = 0; k < 6; k++) x.oven(4, 5, 5, 5);
        for (int s = 0; s < 4; s++) {
            for (int o = 0; o < 6; o++) {
                due.is("45 OVEN " + o, x.shelf(s, 0, o), 1);
                due.is("46 its number", x.taken(s, 4), o);
            }
        }
        for (int s = 0; s < 4; s++) due.is("46 each SHELF has its own", x.taken(s, 0), 5);
        for (int sheet = 0; sheet < 4; sheet++) {
            due.is("45 nothing, if missing", x.shelf(1, 1, sheet), 1);
            due.is("46 -11", x.taken(1, 0), -11);
            x.sheet(sheet, sheet, sheet + 30);
            due.is("45 the row of SHEET " + sheet, x.shelf(1, 1, sheet), 1);
            due.is("46 how many items", x.taken(1, 10 + sheet), sheet + 30);
        }
        for (int n : new int[] {0, -1, 99, LEAST, MOST}) {
            x.shelf(2, 0, 1);
            due.is("45 nothing, n " + n, x.shelf(2, 2, n), 1);
            due.is("46 -11 behind n " + n, x.taken(2, 0), -11);
        }
        due.is("46 the others hold what they held", x.taken(0, 0) + x.taken(1, 13) + x.taken(3, 0), 5 + 33 + 5);
    }

    private static void noSuchOneAtTheTime() {
        OvenPairs x = new OvenPairs();
        x.keep();
        for (int k = 0; k < 6; k++) x.oven(1, 5, 5, 5);
        x.shelf(0, 0, 0);
        x.shelf(1, 0, 5);
        x.again();
        for (int s = 0; s < 2; s++) {
            due.is("46 -11: no such OVEN at the time", x.taken(s, 0), -11);
            due.is("46 -11, as a row", x.taken(s, 10), -11);
            due.is("47 0: nothing", x.act(s, 0, 7), 0);
            due.is("49 no TRACE", x.many(6), 0);
        }
        x.oven(5, 5, 5, 5);
        due.is("46 there is one with that number again", x.taken(0, 5), 0);
        due.is("46 the sixth isn't there yet", x.taken(1, 0), -11);
        for (int k = 1; k < 6; k++) x.oven(3, 5, 5, 5);
        due.is("46 now it is", x.taken(1, 3), 5);
        due.is("47 and acts as it is now", x.act(1, 0, 7), 7 - 15 ^ 3);
    }

    private static void refusedTaken() {
        for (int s : OUT) {
            twins.still("46 BAD SHELF " + s, x -> x.taken(s, 0), OvenPairs.BAD);
            twins.still("46 BAD SHELF, a row " + s, x -> x.taken(s, 10), OvenPairs.BAD);
        }
        for (int as : new int[] {-1, 6, 7, 8, 9, 15, 16, LEAST, MOST}) {
            for (int s = 0; s < 4; s++) {
                int one = s;
                twins.still("46 BAD as " + as, x -> x.taken(one, as), OvenPairs.BAD);
            }
        }
        for (int as = 0; as <= 14; as = as == 5 ? 10 : as + 1) {
            int one = as;
            twins.still("46 -11 as " + as, x -> x.taken(3, one), -11);
        }
    }

    private static void takenAsItsKindOrUnder() {
        int[][] under = {{0, 1}, {0, 2}, {0, 2, 3}, {0, 4}, {0, 4, 5}};
        for (int kind = 1; kind <= 5; kind++) {
            OvenPairs x = new OvenPairs();
            x.oven(1, 1, 1, 1);
            x.oven(kind, 1, 1, 1);
            x.shelf(3, 0, 1);
            for (int as = 0; as <= 5; as++) {
                boolean is = false;
                for (int u : under[kind - 1]) is |= u == as;
                due.is("46 KIND " + kind + " as " + as, x.taken(3, as), is ? 1 : -13);
            }
            for (int as = 10; as <= 14; as++) due.is("46 -13: KIND " + kind + " as a row", x.taken(3, as), -13);
        }
    }

    private static void takenAsARow() {
        for (int sort = 0; sort <= 4; sort++) {
            for (int n : new int[] {0, 1, 40}) {
                OvenPairs x = new OvenPairs();
                x.sheet(0, sort, n);
                x.shelf(0, 1, 0);
                for (int as = 10; as <= 14; as++) due.is("46 sort " + sort + " as " + as, x.taken(0, as), as == sort + 10 ? n : -13);
                for (int as = 0; as <= 5; as++) due.is("46 -13: a row as KIND " + as, x.taken(0, as), -13);
            }
        }
        twins.asks("46", x -> x.taken(0, 5));
    }

    // ---- acts of things

    private static void actOfNoThing() {
        for (int act = -1; act <= 4; act++) {
            int one = act;
            for (int s : new int[] {-1, 4, LEAST, MOST, 1, 3}) noTrace("SHELF " + s, x -> x.act(s, one, 7));
        }
        for (int act : new int[] {-1, 4, LEAST, MOST}) noTrace("act " + act, x -> x.act(0, act, 7));
    }

    /** Answers 0; THE TRACE is gone, and nothing else is changed. */
    private static void noTrace(String told, ToIntFunction<OvenPairs> call) {
        OvenPairs x = Twins.rich(), y = Twins.rich();
        due.is("47 0: " + told, call.applyAsInt(x), 0);
        due.is("47 no TRACE then: " + told, x.many(6), 0);
        due.is("48 no first body: " + told, x.trace(0), OvenPairs.NONE);
        x.act(0, 1, 5);
        due.same("47 nothing else changed: " + told, Twins.seen(x), Twins.seen(y));
    }

    private static void actsOfAllThings() {
        int[] xs = {LEAST, LEAST + 1, -65536, -100, -7, -1, 0, 1, 2, 7, 100, 65537, 1 << 30, MOST - 1, MOST};
        for (int kind = 1; kind <= 5; kind++) {
            for (int o = 0; o < 6; o++) {
                for (int fire = 1; fire <= 9; fire++) actsOf(kind, o, fire, xs);
            }
        }
    }

    private static void actsOf(int kind, int o, int fire, int[] xs) {
        OvenPairs x = new OvenPairs();
        Model m = new Model();
        for (int k = 0; k <= o; k++) {
            x.oven(kind, 5, 5, fire);
            m.oven(kind, 5, 5, fire);
        }
        x.shelf(0, 0, o);
        m.shelf(0, 0, o);
        for (int act = 0; act < 4; act++) {
            for (int v : xs) {
                due.is("47 KIND " + kind + " n " + o + " a " + fire + " act " + act + " x " + v, x.act(0, act, v), m.act(0, act, v));
            }
            due.is("49 how many bodies", x.many(6), m.many(6));
            for (int i = 0; i < m.many(6); i++) due.is("48 body " + i, x.trace(i), m.trace(i));
        }
    }

    private static OvenPairs thing(int kind, int fire) {
        OvenPairs x = new OvenPairs();
        for (int k = 0; k < 4; k++) x.oven(kind, 1, 1, fire);
        x.shelf(0, 0, 3);
        return x;
    }

    private static void partedByZero() {
        for (int kind = 1; kind <= 5; kind++) {
            for (int v : new int[] {LEAST, -1, 0, 1, MOST}) {
                due.is("47 -15: number and FIRE are the same", thing(kind, 3).act(0, 2, v), -15);
            }
            due.is("47 by 1", thing(kind, 2).act(0, 2, LEAST), kind < 4 ? 0 : kind == 4 ? 2 : 2 - (3 - 9));
            due.is("47 by -1", thing(kind, 4).act(0, 2, LEAST), kind < 4 ? 0 : kind == 4 ? 4 : 4 - (3 - 9));
            due.is("47 weds", thing(kind, 3).act(0, 3, 7) == -15 ? 1 : 0, kind == 3 ? 1 : 0);
            due.is("47 the others aren't parted", thing(kind, 3).act(0, 0, 7) == -15 ? 1 : 0, 0);
        }
        OvenPairs x = thing(3, 3);
        x.act(0, 3, 7);
        int[] bodies = {51, 13, 30, 11, 50, 10, 12};
        due.is("49 those that began", x.many(6), 7);
        for (int i = 0; i < 7; i++) due.is("48 body " + i, x.trace(i), bodies[i]);
        due.is("47 the next act isn't parted", x.act(0, 0, 7), 7 - 9 ^ 3);
    }

    private static void traceToItsEnds() {
        for (int i : new int[] {-1, 3, 29, 30, 31, LEAST, MOST}) twins.still("48 NONE " + i, x -> x.trace(i), OvenPairs.NONE);
        for (int i = 0; i < 3; i++) {
            int one = i;
            twins.still("48 the i-th body " + i, x -> x.trace(one), new int[] {60, 11, 10}[i]);
        }
        due.is("48 NONE at first", new OvenPairs().trace(0), OvenPairs.NONE);
        OvenPairs x = thing(1, 5);
        x.act(0, 3, 1);
        due.is("49 four", x.many(6), 4);
        x.act(0, 2, 1);
        due.is("49 one of the latest act() alone", x.many(6), 1);
        due.is("48 its first", x.trace(0), 12);
        due.is("48 no second", x.trace(1), OvenPairs.NONE);
    }

    private static void boundsOfMany() {
        for (int what : new int[] {-1, 7, 8, LEAST, MOST}) twins.still("49 BAD " + what, x -> x.many(what), OvenPairs.BAD);
        int[] rich = {4, 2, 2, 2, 3, 10, 3};
        for (int what = 0; what <= 6; what++) {
            int one = what;
            twins.still("49 what " + what, x -> x.many(one), rich[what]);
            due.is("49 at first, what " + what, new OvenPairs().many(what), 0);
        }
        OvenPairs x = new OvenPairs();
        for (int k = 0; k < 6; k++) x.oven(3, 1, 1, 1);
        Due.tell(x, "rake go;".repeat(8));
        for (int k = 0; k < 6; k++) x.report(1, 1, 1, 1);
        x.prove(4);
        Due.feed(x, " ".repeat(200));
        x.shelf(0, 0, 5);
        x.act(0, 3, 1);
        int[] most = {6, 8, 6, 6, 4, 200, 7};
        for (int what = 0; what <= 6; what++) due.is("49 the most, what " + what, x.many(what), most[what]);
        for (int o = 0; o < 6; o++) x.change(o, 4, 1);
        due.is("49 those at home", x.many(2), 0);
    }
}
