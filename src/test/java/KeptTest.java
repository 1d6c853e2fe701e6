/** Promises 50 and 51. */
public final class KeptTest {
    private static final Due due = new Due();

    public static void main(String[] args) {
        all();
        butNotThese();
        latest();
        due.end();
    }

    private static OvenPairs town() {
        OvenPairs x = new OvenPairs();
        x.oven(4, 5, 0, 3);
        x.oven(4, 5, 3, 4);
        x.oven(2, 6, 9, 7);
        Due.tell(x, "range if night = 1 shy;");
        x.report(4, 0, 3, 3);
        x.ends(9);
        x.seed(41);
        x.night();
        return x;
    }

    private static int[] all(OvenPairs x) {
        int[] seen = new int[40];
        int at = 0;
        for (int o = 0; o < 3; o++) for (int what = 0; what <= 7; what++) seen[at++] = x.ovenOf(o, what);
        for (int what = 0; what <= 4; what++) seen[at++] = x.state(what);
        for (int what = 0; what <= 3; what++) seen[at++] = x.many(what);
        for (int what = 0; what <= 2; what++) seen[at++] = x.span(what);
        seen[at++] = x.on(16);
        seen[at++] = x.longing(0, 2);
        seen[at++] = x.longing(2, 0);
        seen[at] = x.seed(0);
        x.seed(seen[at]);
        return seen;
    }

    private static void all() {
        OvenPairs x = town();
        due.is("51 NONE", x.again(), OvenPairs.NONE);
        due.is("51 a refusal changes nothing", x.many(0), 3);
        int[] was = all(x);
        due.is("50 keep", x.keep(), 1);
        for (int round = 0; round < 2; round++) {
            x.oven(5, 1, 1, 1);
            for (int o = 0; o < 3; o++) {
                x.change(o, 1, 9);
                x.change(o, 2, 15);
                x.change(o, 3, 1);
                x.change(o, 4, 5);
                x.remake(o, 3);
            }
            Due.tell(x, "oven stay; oven go;");
            x.forget();
            x.report(1, 1, 1, 1);
            x.report(1, 1, 2, 2);
            x.ends(16);
            x.lot();
            x.lot();
            if (round == 1) x.anew();
            due.is("51 how many OVENS", x.again(), 3);
            int[] now = all(x);
            for (int k = 0; k < was.length; k++) due.is("51 thing " + k + " in round " + round, now[k], was[k]);
        }
        due.is("51 a fourth comes at home", x.oven(1, 1, 1, 1), 3);
        due.is("51 at home", x.ovenOf(3, 4), 0);
        due.is("51 it longs by its own KIND", x.longing(3, 2), 95);
    }

    private static void butNotThese() {
        OvenPairs x = town();
        x.keep();
        Due.feed(x, "rake");
        x.prove(2);
        int worth = x.row(0, 1);
        x.sheet(1, 2, 3);
        x.write(1, 1, 99);
        x.shelf(2, 0, 1);
        x.act(2, 1, 7);
        x.again();
        due.is("50 THE TAPE stays", x.many(5), 4);
        due.is("50 ROWS stay", x.row(0, 1), worth);
        due.is("50 how many ROWS", x.many(4), 2);
        due.is("50 SHEETS stay", x.item(1, 2, 1), 99);
        due.is("50 SHELVES stay", x.taken(2, 4), 1);
        due.is("50 THE TRACE stays", x.trace(0), 11);
        due.is("50 how many bodies", x.many(6), 2);
        due.is("50 the TAPE is read on", Due.tell(x, " go;"), 1);
    }

    private static void latest() {
        OvenPairs x = new OvenPairs();
        x.keep();
        x.oven(1, 1, 1, 1);
        due.is("51 nobody", x.again(), 0);
        due.is("51 nobody", x.many(0), 0);
        x.oven(1, 1, 1, 1);
        x.keep();
        x.oven(1, 1, 1, 1);
        due.is("51 the latest", x.again(), 1);
        due.is("51 it stays", x.again(), 1);
        OvenPairs other = new OvenPairs();
        due.is("51 another object has none", other.again(), OvenPairs.NONE);
    }
}
