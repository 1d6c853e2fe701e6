/** Promises 40 to 49. */
public final class HostTest {
    private static final Due due = new Due();
    private static final int[] OUT = {-1, 4, Integer.MIN_VALUE, Integer.MAX_VALUE};

    public static void main(String[] args) {
        sheet();
        writeAndItem();
        goAll();
        wouldBe();
        shelfAndTaken();
        shelfOutlivesItsThing();
        acts();
        partedByZero();
        many();
        due.end();
    }

    private static void sheet() {
        OvenPairs x = new OvenPairs();
        for (int s : OUT) due.is("40 BAD sheet", x.sheet(s, 0, 1), OvenPairs.BAD);
        due.is("40 BAD sort", x.sheet(0, -2, 1), OvenPairs.BAD);
        due.is("40 BAD sort", x.sheet(0, 5, 1), OvenPairs.BAD);
        due.is("40 BAD n", x.sheet(0, 0, 41), OvenPairs.BAD);
        due.is("40 below 0", x.sheet(0, 0, -1), -14);
        due.is("40 BAD ahead of -14", x.sheet(4, 0, -1), OvenPairs.BAD);
        due.is("40 BAD ahead of -14", x.sheet(0, 5, -1), OvenPairs.BAD);
        due.is("40 still missing", x.item(0, 0, 0), -11);
        for (int sort = 0; sort <= 4; sort++) {
            due.is("40 forty", x.sheet(3, sort, 40), 1);
            due.is("40 all 0", x.item(3, sort, 39), 0);
            x.write(3, 39, 1);
            x.write(3, 0, 1);
            due.is("40 none", x.sheet(3, sort, 0), 1);
            due.is("40 no item", x.item(3, sort, 0), -12);
            x.sheet(3, sort, 40);
            due.is("40 all 0 again", x.item(3, sort, 39), 0);
            due.is("40 all 0 again", x.item(3, sort, 0), 0);
            due.is("40 a refusal changes nothing", x.sheet(3, 0, 41), OvenPairs.BAD);
            due.is("40 it is there", x.item(3, sort, 39), 0);
            due.is("40 missing, whatever n is", x.sheet(3, -1, sort % 2 == 0 ? -9 : 99), 1);
            due.is("40 missing", x.item(3, sort, 0), -11);
        }
    }

    private static void narrows(int sort, int v, int then) {
        OvenPairs x = new OvenPairs();
        x.sheet(1, sort, 2);
        due.is("41 write " + v, x.write(1, 1, v), 1);
        due.is("42 " + v + " as sort " + sort, x.item(1, sort, 1), then);
        due.is("42 its neighbour", x.item(1, sort, 0), 0);
    }

    private static void writeAndItem() {
        narrows(0, 127, 127);
        narrows(0, 128, -128);
        narrows(0, 200, -56);
        narrows(0, -129, 127);
        narrows(0, 256, 0);
        narrows(1, 32767, 32767);
        narrows(1, 32768, -32768);
        narrows(1, 70000, 4464);
        narrows(1, 65536, 0);
        narrows(2, Integer.MIN_VALUE, Integer.MIN_VALUE);
        narrows(2, -12, -12);
        narrows(3, Integer.MAX_VALUE, Integer.MAX_VALUE);
        narrows(3, -1, -1);
        narrows(4, 0, 0);
        narrows(4, 1, 1);
        narrows(4, 256, 1);
        narrows(4, -1, 1);
        OvenPairs x = new OvenPairs();
        for (int s : OUT) {
            due.is("41 BAD", x.write(s, 0, 1), OvenPairs.BAD);
            due.is("42 BAD", x.item(s, 0, 0), OvenPairs.BAD);
        }
        due.is("41 missing", x.write(0, 0, 1), -11);
        due.is("41 missing ahead of outside", x.write(0, -1, 1), -11);
        x.sheet(0, 2, 3);
        for (int i : new int[] {-1, 3, Integer.MIN_VALUE, Integer.MAX_VALUE}) {
            due.is("41 outside", x.write(0, i, 1), -12);
            due.is("42 outside", x.item(0, 2, i), -12);
            due.is("42 another sort ahead of outside", x.item(0, 3, i), -13);
        }
        due.is("42 BAD sort", x.item(0, 5, 0), OvenPairs.BAD);
        due.is("42 BAD sort", x.item(0, -1, 0), OvenPairs.BAD);
        due.is("42 BAD sort of a missing one", x.item(1, 5, 0), OvenPairs.BAD);
        due.is("42 missing", x.item(1, 3, 9), -11);
    }

    private static OvenPairs two() {
        OvenPairs x = new OvenPairs();
        x.oven(4, 5, 0, 3);
        x.oven(4, 5, 0, 4);
        return x;
    }

    private static void fill(OvenPairs x, int sheet, int... acts) {
        x.sheet(sheet, 0, acts.length);
        for (int k = 0; k < acts.length; k++) x.write(sheet, k, acts[k]);
    }

    private static void refusals(OvenPairs x, boolean all) {
        String name = all ? "43" : "44";
        for (int s : OUT) due.is(name + " BAD sheet", all ? x.goAll(s, 0, 0) : x.wouldBe(s, 0, 0), OvenPairs.BAD);
        for (int n : new int[] {-1, 21}) due.is(name + " BAD n", all ? x.goAll(0, 0, n) : x.wouldBe(0, 0, n), OvenPairs.BAD);
        due.is(name + " missing", all ? x.goAll(0, 0, 0) : x.wouldBe(0, 0, 0), -11);
        for (int sort = 1; sort <= 4; sort++) {
            x.sheet(0, sort, 4);
            due.is(name + " another sort", all ? x.goAll(0, 9, 1) : x.wouldBe(0, 9, 1), -13);
        }
        x.sheet(0, 0, 4);
        for (int i : new int[] {-1, 4, Integer.MIN_VALUE, Integer.MAX_VALUE}) {
            due.is(name + " outside", all ? x.goAll(0, i, 1) : x.wouldBe(0, i, 1), -12);
            due.is(name + " nothing is asked for outside", all ? x.goAll(0, i, 0) : x.wouldBe(0, i, 0), 0);
        }
        due.is(name + " nothing was done", x.state(0), 0);
    }

    private static void goAll() {
        OvenPairs x = two();
        refusals(x, true);
        fill(x, 1, 2, 9, 1, -1, 0, 1);
        due.is("43 two chained, two left out", x.goAll(1, 0, 4), 14);
        due.is("43 two NIGHTS", x.state(0), 2);
        due.is("43 SCORE", x.state(2), 14);
        due.is("43 the first is done, then outside", x.goAll(1, 4, 3), -12);
        due.is("43 two NIGHTS more", x.state(0), 4);
        due.is("43 they went off", x.state(4), 0);
        x.anew();
        x.ends(1);
        due.is("43 OVER behind the first", x.goAll(1, 0, 6), 7);
        due.is("43 OVER", x.goAll(1, 0, 6), 0);
        due.is("43 OVER, and outside", x.goAll(1, 5, 2), -12);
        OvenPairs many = two();
        many.ends(16);
        many.sheet(2, 0, 40);
        for (int k = 0; k < 40; k++) many.write(2, k, 1);
        due.is("43 twenty", many.goAll(2, 20, 20), 112);
        due.is("43 to END", many.state(0), 16);
    }

    private static void wouldBe() {
        OvenPairs x = two();
        refusals(x, false);
        fill(x, 1, 2, 1, 0, 9, 3, -1);
        due.is("44 two", x.wouldBe(1, 0, 2), 14);
        due.is("44 three", x.wouldBe(1, 0, 3), 14);
        due.is("44 9 is no ACT", x.wouldBe(1, 0, 4), OvenPairs.STATE);
        due.is("44 3 is no ACT", x.wouldBe(1, 4, 1), OvenPairs.STATE);
        due.is("44 -1 is no ACT", x.wouldBe(1, 5, 1), OvenPairs.STATE);
        due.is("44 no ACT comes ahead of outside", x.wouldBe(1, 5, 2), OvenPairs.STATE);
        fill(x, 2, 1, 1, 1);
        due.is("44 outside comes behind ACTS", x.wouldBe(2, 1, 3), -12);
        x.ends(2);
        due.is("44 to END", x.wouldBe(2, 0, 2), 14);
        due.is("44 OVER", x.wouldBe(2, 0, 3), OvenPairs.STATE);
        due.is("44 OVER comes ahead of outside", x.wouldBe(2, 0, 4), OvenPairs.STATE);
        due.is("44 outside comes ahead of OVER", x.wouldBe(2, 1, 3), -12);
        due.is("44 asked only", x.state(0) + x.state(2) + x.state(4), 3);
        x.oven(3, 0, 0, 1);
        due.is("44 3 is an ACT now", x.wouldBe(1, 4, 1), 3);
    }

    private static void shelfAndTaken() {
        OvenPairs x = new OvenPairs();
        for (int kind = 1; kind <= 5; kind++) x.oven(kind, 5, 5, 5);
        for (int s : OUT) {
            due.is("45 BAD shelf", x.shelf(s, 0, 0), OvenPairs.BAD);
            due.is("46 BAD shelf", x.taken(s, 0), OvenPairs.BAD);
        }
        due.is("45 BAD what", x.shelf(0, 3, 0), OvenPairs.BAD);
        due.is("45 BAD what", x.shelf(0, -1, 0), OvenPairs.BAD);
        due.is("45 BAD OVEN", x.shelf(0, 0, 5), OvenPairs.BAD);
        due.is("45 BAD OVEN", x.shelf(0, 0, -1), OvenPairs.BAD);
        due.is("45 BAD SHEET", x.shelf(0, 1, 4), OvenPairs.BAD);
        due.is("45 BAD SHEET", x.shelf(0, 1, -1), OvenPairs.BAD);
        for (int as : new int[] {-1, 6, 9, 15, Integer.MIN_VALUE, Integer.MAX_VALUE}) {
            due.is("46 BAD as", x.taken(0, as), OvenPairs.BAD);
        }
        due.is("46 nothing", x.taken(0, 3), -11);
        due.is("46 nothing", x.taken(0, 14), -11);
        int[] lines = {3, 5, 13, 17, 49};
        for (int o = 0; o < 5; o++) {
            due.is("45 OVEN " + o, x.shelf(3, 0, o), 1);
            for (int as = 0; as <= 5; as++) due.is("46 OVEN " + o + " as " + as, x.taken(3, as), (lines[o] >> as & 1) != 0 ? o : -13);
            for (int as = 10; as <= 14; as++) due.is("46 OVEN " + o + " as a row", x.taken(3, as), -13);
        }
        for (int sort = 0; sort <= 4; sort++) {
            x.sheet(2, sort, sort + 7);
            due.is("45 a row", x.shelf(1, 1, 2), 1);
            for (int as = 10; as <= 14; as++) due.is("46 a row as " + as, x.taken(1, as), as == sort + 10 ? sort + 7 : -13);
            for (int as = 0; as <= 5; as++) due.is("46 a row as a thing", x.taken(1, as), -13);
        }
        due.is("45 nothing, whatever n is", x.shelf(1, 2, 99), 1);
        due.is("46 nothing", x.taken(1, 10), -11);
        due.is("45 a missing row", x.shelf(3, 1, 0), 1);
        due.is("46 nothing", x.taken(3, 0), -11);
        x.shelf(0, 0, 1);
        due.is("45 BAD changes nothing", x.shelf(0, 0, 9), OvenPairs.BAD);
        due.is("46 it is there", x.taken(0, 2), 1);
    }

    private static void shelfOutlivesItsThing() {
        OvenPairs x = new OvenPairs();
        x.sheet(0, 0, 7);
        x.shelf(0, 1, 0);
        x.sheet(0, 2, 9);
        due.is("46 the row that was put there", x.taken(0, 10), 7);
        x.sheet(0, -1, 0);
        due.is("46 though its SHEET is missing", x.taken(0, 10), 7);
        x.oven(4, 5, 5, 5);
        x.keep();
        x.oven(2, 5, 5, 5);
        x.shelf(1, 0, 1);
        due.is("46 an OVEN", x.taken(1, 2), 1);
        x.remake(1, 5);
        due.is("46 it is no range now", x.taken(1, 2), -13);
        due.is("46 but a rake", x.taken(1, 5), 1);
        x.again();
        due.is("46 there is no such one now", x.taken(1, 0), -11);
        due.is("47 nor does it act", x.act(1, 0, 5), 0);
        due.is("48 no TRACE", x.trace(0), OvenPairs.NONE);
        x.oven(1, 5, 5, 5);
        due.is("46 by its number there is one again", x.taken(1, 1), 1);
        due.is("46 the row is still there", x.taken(0, 10), 7);
    }

    private static void acts(OvenPairs x, int act, int arg, int answer, int... bodies) {
        due.is("47 act " + act + " of " + arg, x.act(0, act, arg), answer);
        due.is("49 bodies", x.many(6), bodies.length);
        for (int k = 0; k < bodies.length; k++) due.is("48 body " + k, x.trace(k), bodies[k]);
        due.is("48 no more", x.trace(bodies.length), OvenPairs.NONE);
        due.is("48 below", x.trace(-1), OvenPairs.NONE);
    }

    /** The thing is OVEN 2 with FIRE 5. */
    private static OvenPairs thing(int kind) {
        OvenPairs x = new OvenPairs();
        x.oven(1, 1, 1, 1);
        x.oven(1, 1, 1, 1);
        x.oven(kind, 3, 3, 5);
        x.shelf(0, 0, 2);
        return x;
    }

    private static void acts() {
        OvenPairs x = thing(1);
        acts(x, 0, 10, 8, 20, 10);
        acts(x, 1, 10, 13, 11, 20, 10);
        acts(x, 2, 10, 1, 12);
        acts(x, 2, -10, -1, 12);
        acts(x, 3, 10, 14, 13, 11, 20, 10);
        x = thing(2);
        acts(x, 0, 10, 4, 10);
        acts(x, 1, 10, -1, 30, 11, 10);
        acts(x, 3, 10, 0, 13, 30, 11, 10);
        x = thing(3);
        acts(x, 0, 10, 7, 50, 10);
        acts(x, 1, 10, 0, 30, 11, 50, 10);
        acts(x, 2, 11, 2, 12);
        acts(x, 3, 11, 4, 51, 13, 30, 11, 50, 10, 12);
        x = thing(4);
        acts(x, 1, 10, 1, 11, 10);
        acts(x, 2, 11, 7, 40, 12);
        acts(x, 2, -11, 3, 40, 12);
        x = thing(5);
        acts(x, 1, 10, -1, 60, 11, 10);
        acts(x, 2, 11, 11, 61, 40, 12, 10);
        acts(x, 3, 10, 0, 13, 60, 11, 10);
        x = thing(1);
        acts(x, 0, Integer.MIN_VALUE, -12, 20, 10);
        acts(x, 0, Integer.MIN_VALUE + 5, -2, 20, 10);
        acts(x, 1, Integer.MAX_VALUE, -9, 11, 20, 10);
        x.change(2, 3, 3);
        acts(x, 2, Integer.MIN_VALUE, 0, 12);
        for (int s : OUT) {
            x.act(0, 0, 1);
            due.is("47 no such SHELF", x.act(s, 0, 1), 0);
            due.is("48 no TRACE", x.many(6), 0);
        }
        x.act(0, 0, 1);
        due.is("47 no such act", x.act(0, 4, 1), 0);
        due.is("48 no TRACE", x.trace(0), OvenPairs.NONE);
        x.act(0, 0, 1);
        due.is("47 no such act", x.act(0, -1, 1), 0);
        due.is("48 no TRACE", x.trace(0), OvenPairs.NONE);
        x.act(0, 0, 1);
        due.is("47 nothing", x.act(1, 0, 1), 0);
        due.is("48 no TRACE", x.trace(0), OvenPairs.NONE);
        x.act(0, 0, 1);
        x.sheet(0, 0, 1);
        x.shelf(2, 1, 0);
        due.is("47 a row", x.act(2, 0, 1), 0);
        due.is("48 no TRACE", x.trace(0), OvenPairs.NONE);
    }

    private static void partedByZero() {
        int[][] bodies = {{}, {12}, {12}, {12}, {40, 12}, {61, 40, 12}};
        for (int kind = 1; kind <= 5; kind++) {
            OvenPairs x = thing(kind);
            x.change(2, 3, 2);
            acts(x, 2, 7, -15, bodies[kind]);
        }
        OvenPairs x = thing(3);
        x.change(2, 3, 2);
        acts(x, 3, 7, -15, 51, 13, 30, 11, 50, 10, 12);
        acts(x, 0, 7, 2, 50, 10);
    }

    private static void many() {
        OvenPairs x = two();
        Due.tell(x, "rake go; rake stay; rake shy;");
        x.change(1, 4, 2);
        for (int k = 0; k < 4; k++) x.report(1, 1, 1, 1);
        x.prove(3);
        Due.feed(x, "rake ");
        x.shelf(0, 0, 0);
        x.act(0, 1, 1);
        int[] many = {2, 3, 1, 4, 3, 5, 2};
        for (int what = 0; what <= 6; what++) due.is("49 many " + what, x.many(what), many[what]);
        due.is("49 BAD", x.many(7), OvenPairs.BAD);
        due.is("49 BAD", x.many(-1), OvenPairs.BAD);
    }
}
