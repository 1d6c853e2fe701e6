/** Promises 1 to 9. */
public final class OvensTest {
    private static final Due due = new Due();

    public static void main(String[] args) {
        newObject();
        oven();
        ovenOf();
        choices();
        change();
        remake();
        longing();
        ends();
        anewAndState();
        due.end();
    }

    private static void newObject() {
        OvenPairs x = new OvenPairs();
        for (int what = 0; what <= 6; what++) due.is("1 many " + what, x.many(what), 0);
        int[] states = {0, 12, 0, 0, 0};
        for (int what = 0; what <= 4; what++) due.is("1 state " + what, x.state(what), states[what]);
        due.is("1 again", x.again(), OvenPairs.NONE);
        due.is("1 seed", x.seed(1), 1);
        due.is("1 trace", x.trace(0), OvenPairs.NONE);
        due.is("1 row", x.row(0, 0), -9);
        for (int k = 0; k < 4; k++) {
            due.is("1 item", x.item(k, 0, 0), -11);
            due.is("1 taken", x.taken(k, 0), -11);
        }
        OvenPairs other = new OvenPairs();
        x.oven(1, 1, 1, 1);
        due.is("1 another object has no OVEN", other.many(0), 0);
    }

    private static void oven() {
        OvenPairs x = new OvenPairs();
        int[][] bad = {{0, 1, 1, 1}, {6, 1, 1, 1}, {-1, 1, 1, 1}, {1, -1, 1, 1}, {1, 10, 1, 1}, {1, 1, -1, 1}, {1, 1, 16, 1},
            {1, 1, 1, 0}, {1, 1, 1, 10}, {Integer.MIN_VALUE, 1, 1, 1}, {1, 1, 1, Integer.MAX_VALUE}};
        for (int[] b : bad) due.is("2 BAD", x.oven(b[0], b[1], b[2], b[3]), OvenPairs.BAD);
        due.is("2 none came", x.many(0), 0);
        due.is("2 least", x.oven(1, 0, 0, 1), 0);
        due.is("2 most", x.oven(5, 9, 15, 9), 1);
        for (int k = 2; k < 6; k++) due.is("2 number", x.oven(k - 1, k, k, k), k);
        due.is("2 at home", x.state(4), 63);
        due.is("2 FULL", x.oven(1, 1, 1, 1), OvenPairs.FULL);
        for (int[] b : bad) due.is("2 BAD ahead of FULL", x.oven(b[0], b[1], b[2], b[3]), OvenPairs.BAD);
        due.is("2 six", x.many(0), 6);
        due.is("2 it is as told", x.ovenOf(1, 0) * 1000 + x.ovenOf(1, 1) * 100 + x.ovenOf(1, 2) + x.ovenOf(1, 3), 5924);
    }

    private static void ovenOf() {
        OvenPairs x = new OvenPairs();
        for (int kind = 1; kind <= 5; kind++) x.oven(kind, kind + 1, kind + 2, 7);
        int[] bakes = {3, 14, 15, 7, 7};
        for (int o = 0; o < 5; o++) {
            int[] of = {o + 1, o + 2, o + 3, 7, 0, bakes[o], 0};
            for (int what = 0; what < 7; what++) due.is("3 ovenOf " + o + " " + what, x.ovenOf(o, what), of[what]);
        }
        x.night();
        due.is("3 a rake in an odd NIGHT", x.ovenOf(4, 5), 0);
        x.change(1, 4, 5);
        due.is("3 it BAKES so wherever it is", x.ovenOf(1, 5), 14);
        due.is("3 AWAY", x.ovenOf(1, 4), 5);
        due.is("3 BAD what", x.ovenOf(0, 8), OvenPairs.BAD);
        due.is("3 BAD what", x.ovenOf(0, -1), OvenPairs.BAD);
        due.is("3 BAD OVEN", x.ovenOf(5, 0), OvenPairs.BAD);
        due.is("3 BAD OVEN", x.ovenOf(-1, 0), OvenPairs.BAD);
        Due.tell(x, "range shy; rake stay; portable if night = 1 stay;");
        int[] wills = {0, 2, 2, 1, 1};
        for (int o = 0; o < 5; o++) due.is("3 WILL of " + o, x.ovenOf(o, 6), wills[o]);
        x.night();
        due.is("3 WILL in the next NIGHT", x.ovenOf(3, 6), 0);
        OvenPairs late = new OvenPairs();
        late.oven(5, 5, 5, 5);
        late.ends(16);
        for (int k = 0; k < 16; k++) late.night();
        Due.tell(late, "oven if night = 16 shy;");
        due.is("3 WILL when it is OVER", late.ovenOf(0, 6), 2);
        due.is("3 BAKES when it is OVER", late.ovenOf(0, 5), 5);
    }

    private static void choices() {
        OvenPairs x = new OvenPairs();
        x.oven(4, 3, 0, 1);
        x.oven(4, 6, 15, 1);
        x.oven(4, 6, 9, 1);
        x.oven(3, 9, 0, 1);
        due.is("3 the greatest", x.ovenOf(0, 7), 3);
        due.is("3 a doored one chooses nobody", x.ovenOf(3, 7), 6);
        x.change(3, 4, 1);
        due.is("3 one that is away isn't chosen, of several the least is", x.ovenOf(0, 7), 1);
        due.is("3 one that is away has none", x.ovenOf(3, 7), 6);
        due.is("3 not itself", x.ovenOf(1, 7), 2);
        Due.tell(x, "oven if number = 1 stay; oven if number = 2 shy;");
        due.is("3 one that stays isn't chosen", x.ovenOf(0, 7), 2);
        due.is("3 one that stays has none", x.ovenOf(1, 7), 6);
        due.is("3 a shy one wants more than 3", x.ovenOf(2, 7), 6);
        x.change(0, 1, 4);
        due.is("3 4 is more than 3", x.ovenOf(2, 7), 0);
        x.change(2, 1, 0);
        due.is("3 0 isn't above 0", x.ovenOf(0, 7), 6);
    }

    private static void change() {
        OvenPairs x = new OvenPairs();
        x.oven(2, 3, 4, 5);
        int[][] edges = {{1, 0, 9}, {2, 0, 15}, {3, 1, 9}, {4, 0, 9}};
        int[] now = {0, 3, 4, 5, 0};
        for (int[] e : edges) {
            due.is("4 below", x.change(0, e[0], e[1] - 1), OvenPairs.BAD);
            due.is("4 above", x.change(0, e[0], e[2] + 1), OvenPairs.BAD);
            due.is("4 least", x.change(0, e[0], e[1]), now[e[0]]);
            due.is("4 most", x.change(0, e[0], e[2]), e[1]);
            due.is("4 it is so", x.ovenOf(0, e[0]), e[2]);
        }
        due.is("4 what 0", x.change(0, 0, 1), OvenPairs.BAD);
        due.is("4 what 5", x.change(0, 5, 1), OvenPairs.BAD);
        due.is("4 OVEN 1", x.change(1, 1, 1), OvenPairs.BAD);
        due.is("4 OVEN -1", x.change(-1, 1, 1), OvenPairs.BAD);
        due.is("4 who is away isn't at home", x.state(4), 0);
        x.oven(4, 5, 15, 1);
        due.is("4 the one ahead of it stays away", x.ovenOf(0, 4), 9);
        due.is("4 longing before", x.longing(1, 0), 109);
        x.change(0, 1, 2);
        due.is("4 longing of others for it follows", x.longing(1, 0), 102);
        x.change(0, 2, 13);
        due.is("4 its own longing follows", x.longing(0, 1), 103);
        x.change(1, 4, 3);
        x.change(1, 4, 3);
        due.is("4 both are away", x.ovenOf(0, 4) * 10 + x.ovenOf(1, 4), 93);
        Due.tell(x, "oven if fire > 4 stay;");
        due.is("4 WILL before", x.ovenOf(1, 6), 0);
        x.change(1, 3, 5);
        due.is("4 WILL follows", x.ovenOf(1, 6), 1);
    }

    private static void remake() {
        OvenPairs x = new OvenPairs();
        x.oven(2, 3, 4, 5);
        due.is("5 KIND 0", x.remake(0, 0), OvenPairs.BAD);
        due.is("5 KIND 6", x.remake(0, 6), OvenPairs.BAD);
        due.is("5 OVEN 1", x.remake(1, 1), OvenPairs.BAD);
        due.is("5 OVEN -1", x.remake(-1, 1), OvenPairs.BAD);
        due.is("5 still a range", x.ovenOf(0, 5), 10);
        x.change(0, 4, 7);
        due.is("5 remake", x.remake(0, 3), 2);
        due.is("5 BAKES as the new KIND", x.ovenOf(0, 5), 11);
        due.is("5 the rest of it is as it was", x.ovenOf(0, 1) * 1000 + x.ovenOf(0, 2) * 100 + x.ovenOf(0, 3) * 10 + x.ovenOf(0, 4), 3457);
        x.oven(4, 6, 4, 1);
        due.is("5 a doored one longs for nobody", x.longing(0, 1), 99);
        due.is("5 remake again", x.remake(0, 5), 3);
        due.is("5 a rake longs", x.longing(0, 1), 108);
        Due.tell(x, "portable stay;");
        due.is("5 WILL as a rake", x.ovenOf(0, 6), 1);
        x.remake(0, 1);
        due.is("5 WILL as a widowed one", x.ovenOf(0, 6), 0);
    }

    private static void longing() {
        OvenPairs x = new OvenPairs();
        x.oven(1, 5, 2, 1);
        x.oven(2, 5, 6, 1);
        x.oven(3, 6, 0, 1);
        x.oven(4, 4, 15, 1);
        x.oven(5, 9, 7, 1);
        x.oven(5, 0, 15, 1);
        int[][] longs = {
            {0, -2, 1, -12, 1, -16},
            {1, 0, 0, -1, 8, -1},
            {-1, -1, 0, -1, -1, -1},
            {5, 5, 6, 0, 9, 0},
            {5, 5, 6, 4, 0, 2},
            {5, 5, 6, 4, 9, 0}};
        for (int o = 0; o < 6; o++) {
            for (int other = 0; other < 6; other++) {
                due.is("6 longing " + o + " " + other, x.longing(o, other), o == other ? OvenPairs.BAD : 100 + longs[o][other]);
            }
        }
        due.is("6 no such one", x.longing(6, 0), OvenPairs.BAD);
        due.is("6 no such one", x.longing(0, 6), OvenPairs.BAD);
        due.is("6 no such one", x.longing(-1, 0), OvenPairs.BAD);
        due.is("6 no such one", x.longing(0, -1), OvenPairs.BAD);
    }

    private static void ends() {
        OvenPairs x = new OvenPairs();
        due.is("7 0", x.ends(0), OvenPairs.BAD);
        due.is("7 17", x.ends(17), OvenPairs.BAD);
        due.is("7 1", x.ends(1), 12);
        due.is("7 16", x.ends(16), 1);
        for (int k = 0; k < 3; k++) x.night();
        due.is("7 below NIGHT", x.ends(2), OvenPairs.STATE);
        due.is("7 BAD ahead of STATE", x.ends(0), OvenPairs.BAD);
        due.is("7 nothing changed", x.state(1), 16);
        due.is("7 not OVER", x.state(3), 0);
        due.is("7 NIGHT itself", x.ends(3), 16);
        due.is("7 OVER", x.state(3), 1);
        due.is("7 later again", x.ends(4), 3);
        due.is("7 not OVER", x.state(3), 0);
    }

    private static void anewAndState() {
        OvenPairs x = new OvenPairs();
        x.oven(4, 5, 0, 3);
        x.oven(4, 5, 0, 4);
        x.oven(3, 5, 0, 1);
        x.ends(5);
        x.seed(77);
        x.night();
        x.night();
        due.is("9 NIGHT", x.state(0), 2);
        due.is("9 END", x.state(1), 5);
        due.is("9 SCORE", x.state(2), 6);
        due.is("9 OVER", x.state(3), 0);
        due.is("9 at home", x.state(4), 4);
        due.is("9 BAD", x.state(5), OvenPairs.BAD);
        due.is("9 BAD", x.state(-1), OvenPairs.BAD);
        due.is("8 anew", x.anew(), 2);
        due.is("8 NIGHT", x.state(0), 0);
        due.is("8 SCORE", x.state(2), 0);
        due.is("8 all are at home", x.state(4), 7);
        due.is("8 END stays", x.state(1), 5);
        due.is("8 OVENS stay", x.many(0), 3);
        due.is("8 z stays", x.seed(1), 77);
    }
}
