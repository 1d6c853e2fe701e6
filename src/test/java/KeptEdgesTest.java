/** The edges of promises 50 and 51: what is kept, what isn't, the latest, which stays. */
public final class KeptEdgesTest {
    private static final Due due = new Due();
    private static final Twins twins = new Twins(due);

    public static void main(String[] args) {
        nothingIsKept();
        keepChangesNothingElse();
        eachThingThatIsKept();
        eachThingThatIsNot();
        keptOfNobodyAndOfAll();
        theLatestWhichStays();
        keptApart();
        due.end();
    }

    private static void nothingIsKept() {
        twins.still("51 NONE at first", Twins::bare, x -> x.again(), OvenPairs.NONE);
        twins.still("51 NONE of a town", KeptEdgesTest::town, x -> x.again(), OvenPairs.NONE);
    }

    /** All that there can be, and nothing kept. */
    private static OvenPairs town() {
        OvenPairs x = new OvenPairs();
        for (int k = 0; k < 4; k++) x.oven(k + 2, 5 + k, k * 4, k + 2);
        Due.tell(x, "range if night=3shy;rake stay;");
        x.report(4, 0, 3, 5);
        x.report(1, 4, -2, 6);
        x.ends(9);
        x.seed(-41);
        x.night();
        x.change(0, 4, 3);
        return x;
    }

    private static String kept(OvenPairs x) {
        StringBuilder told = new StringBuilder();
        Twins.townTo(told, x);
        return told.append(x.many(1)).append(' ').append(x.many(3)).append('\n').toString();
    }

    private static void keepChangesNothingElse() {
        OvenPairs x = Twins.rich(), y = Twins.rich();
        due.is("50 keep", x.keep(), 1);
        due.is("50 again and again", x.keep(), 1);
        due.same("50 nothing else changed", Twins.now(x), Twins.now(y));
    }

    private interface Act {
        void on(OvenPairs x);
    }

    private static void comesBack(String told, Act act) {
        OvenPairs x = town();
        x.keep();
        String was = kept(x);
        act.on(x);
        due.is("50 " + told + " is something", kept(x).equals(was) ? 0 : 1, 1);
        due.is("51 how many OVENS", x.again(), 4);
        due.same("51 " + told + " is as it was", kept(x), was);
        due.same("51 as a town that never changed", Twins.now(x), Twins.now(town()));
    }

    private static void eachThingThatIsKept() {
        for (int o = 0; o < 4; o++) {
            int one = o;
            for (int what = 1; what <= 4; what++) {
                int two = what;
                comesBack("what " + what + " of " + o, x -> x.change(one, two, 9));
            }
            comesBack("KIND of " + o, x -> x.remake(one, 1));
        }
        comesBack("how many OVENS", x -> x.oven(1, 9, 9, 9));
        comesBack("six OVENS", x -> {
            x.oven(1, 9, 9, 9);
            x.oven(4, 9, 9, 9);
        });
        comesBack("END", x -> x.ends(16));
        comesBack("NIGHT", x -> x.night());
        comesBack("SCORE, NIGHT 0, AWAY", x -> x.anew());
        comesBack("THE RULES", x -> Due.tell(x, "oven stay; oven go;"));
        comesBack("no RULES", x -> x.rules());
        comesBack("a REPORT", x -> x.report(3, 3, -1, -1));
        comesBack("REPORTS", x -> x.forget());
        comesBack("other REPORTS", x -> {
            x.forget();
            x.report(4, 0, 9, 9);
            x.report(4, 0, 8, 8);
        });
        comesBack("z", x -> x.seed(7));
        comesBack("a LOT", x -> x.lot());
        comesBack("till it is OVER", x -> {
            for (int k = 0; k < 16; k++) x.night();
        });
    }

    private static void stays(String told, Act act) {
        twins.alike("50 not kept: " + told, KeptEdgesTest::town, x -> {
            x.keep();
            act.on(x);
            x.again();
        }, x -> {
            x.keep();
            act.on(x);
        });
        OvenPairs x = town();
        act.on(x);
        due.is("50 " + told + " is something", Twins.now(x).equals(Twins.now(town())) ? 0 : 1, 1);
    }

    private static void eachThingThatIsNot() {
        stays("THE TAPE", x -> Due.feed(x, "oven stay;"));
        stays("a full TAPE", x -> Due.feed(x, " ".repeat(193) + "rake go"));
        stays("ROWS", x -> x.prove(4));
        stays("altered ROWS", x -> {
            x.prove(2);
            x.alterRow(1, 2, -5);
        });
        stays("SHEETS", x -> {
            for (int s = 0; s < 4; s++) x.sheet(s, s, 4);
            x.write(2, 3, -5);
        });
        stays("SHELVES", x -> {
            x.sheet(0, 2, 5);
            x.shelf(0, 0, 3);
            x.shelf(1, 1, 0);
            x.shelf(2, 0, 0);
        });
        stays("THE TRACE", x -> {
            x.shelf(0, 0, 3);
            x.act(0, 3, 5);
        });
        OvenPairs x = town();
        Due.feed(x, "oven ");
        x.keep();
        Due.feed(x, "stay;");
        x.again();
        due.is("50 THE TAPE is what came to it, kept or not", x.rules(), 1);
        x.prove(2);
        x.keep();
        x.prove(4);
        due.is("51 four", x.again(), 4);
        due.is("50 ROWS are the latest", x.many(4), 4);
    }

    private static void keptOfNobodyAndOfAll() {
        OvenPairs x = new OvenPairs();
        due.is("50 nobody", x.keep(), 1);
        for (int k = 0; k < 6; k++) x.oven(4, 5, k, 3);
        for (int k = 0; k < 3; k++) x.night();
        due.is("51 nobody is kept, which isn't NONE", x.again(), 0);
        due.same("51 as new", Twins.now(x), Twins.now(new OvenPairs()));
        due.is("2 the first again", x.oven(4, 5, 1, 3), 0);
        due.is("2 at home", x.ovenOf(0, 4), 0);
        OvenPairs six = new OvenPairs();
        for (int k = 0; k < 6; k++) six.oven(4, 5, k, 3);
        six.keep();
        due.is("51 six", six.again(), 6);
        due.is("2 FULL", six.oven(4, 5, 5, 3), OvenPairs.FULL);
    }

    private static void theLatestWhichStays() {
        OvenPairs x = new OvenPairs();
        for (int k = 1; k <= 6; k++) {
            x.oven(4, k, k, k);
            x.keep();
        }
        for (int k = 0; k < 3; k++) {
            x.change(5, 1, 0);
            x.seed(k);
            due.is("51 the latest", x.again(), 6);
            due.is("51 as it was kept", x.ovenOf(5, 1) * 10 + x.seed(9), 61);
        }
        x.anew();
        x.night();
        x.keep();
        x.anew();
        due.is("51 the latest", x.again(), 6);
        due.is("51 its NIGHT", x.state(0), 1);
    }

    /** What is kept has nothing in common with what goes on. */
    private static void keptApart() {
        OvenPairs x = town();
        x.keep();
        String was = kept(x);
        x.again();
        for (int o = 0; o < 4; o++) {
            x.change(o, 1, 1);
            x.change(o, 2, 1);
            x.change(o, 3, 1);
            x.change(o, 4, 9);
            x.remake(o, 3);
        }
        x.forget();
        for (int k = 0; k < 6; k++) x.report(5, 9, 9, 9);
        Due.tell(x, "oven shy;".repeat(8));
        x.again();
        due.same("51 it stays", kept(x), was);
        OvenPairs y = town();
        y.keep();
        OvenPairs z = town();
        due.is("51 another object has none", z.again(), OvenPairs.NONE);
    }
}
