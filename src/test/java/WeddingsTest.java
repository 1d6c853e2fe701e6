/** Promises 18 to 21. */
public final class WeddingsTest {
    private static final Due due = new Due();

    public static void main(String[] args) {
        nobody();
        counts();
        mostBeforeLonging();
        longingBeforeNumbers();
        numbers();
        chains();
        due.end();
    }

    private static void nobody() {
        OvenPairs x = new OvenPairs();
        due.is("18 none", x.pairs(), 0);
        due.is("19 none", x.weddings(0) + x.weddings(1), 0);
        due.is("20 BAD", x.mate(0), OvenPairs.BAD);
        due.is("21 none", x.chains(0) + x.chains(1), 0);
        x.oven(3, 9, 0, 1);
        x.oven(4, 9, 0, 1);
        due.is("18 one side alone", x.pairs(), 0);
        due.is("19 one side alone", x.weddings(0) + x.weddings(1), 0);
        due.is("20 none", x.mate(1), 6);
        due.is("19 BAD", x.weddings(2), OvenPairs.BAD);
        due.is("19 BAD", x.weddings(-1), OvenPairs.BAD);
        due.is("21 BAD", x.chains(2), OvenPairs.BAD);
        due.is("21 BAD", x.chains(-1), OvenPairs.BAD);
        due.is("20 BAD", x.mate(2), OvenPairs.BAD);
        due.is("20 BAD", x.mate(-1), OvenPairs.BAD);
    }

    private static void counts() {
        OvenPairs x = new OvenPairs();
        x.oven(4, 3, 0, 1);
        x.oven(4, 4, 15, 1);
        x.oven(4, 0, 0, 1);
        due.is("18 0 isn't above 0", x.pairs(), 1);
        due.is("19 pairs", x.weddings(0), 1);
        due.is("19 LONGING of both", x.weddings(1), 7);
        x.change(2, 1, 1);
        due.is("18 all", x.pairs(), 3);
        x.change(0, 4, 5);
        Due.tell(x, "oven stay;");
        due.is("18 wherever they are, whatever their WILL", x.pairs(), 3);
        due.is("19 likewise", x.weddings(1), 7);
        due.is("20 likewise", x.mate(0), 1);
        due.is("20 the third", x.mate(2), 6);
    }

    private static void mostBeforeLonging() {
        OvenPairs y = new OvenPairs();
        // widowed ones reach only near: 0 with 1, 1 with 2, 2 with 3
        y.oven(1, 5, 0, 1);
        y.oven(1, 9, 1, 1);
        y.oven(1, 9, 2, 1);
        y.oven(1, 5, 3, 1);
        due.is("18 near ones", y.pairs(), 3);
        due.is("19 two pairs in place of the warmest one", y.weddings(0), 2);
        due.is("19 5 and 1, 1 and 5", y.weddings(1), 12);
        due.is("20 0", y.mate(0), 1);
        due.is("20 3", y.mate(3), 2);
        OvenPairs z = new OvenPairs();
        z.oven(1, 4, 0, 1);
        z.oven(1, 9, 0, 1);
        z.oven(1, 9, 2, 1);
        due.is("18 the first and the third are too far", z.pairs(), 2);
        due.is("19 one pair", z.weddings(0), 1);
        due.is("19 the one with more LONGING", z.weddings(1), 8);
        due.is("20 the least is left", z.mate(0) * 100 + z.mate(1) * 10 + z.mate(2), 621);
    }

    private static void longingBeforeNumbers() {
        OvenPairs x = new OvenPairs();
        x.oven(5, 5, 0, 1);
        x.oven(4, 5, 0, 1);
        x.oven(1, 5, 0, 1);
        // 0 and 1: 7 + 5; 0 and 2: 7 + 2; 1 and 2: 5 + 2
        due.is("19 LONGING", x.weddings(1), 12);
        x.oven(1, 5, 0, 1);
        // 01 23: 12 + 4; 02 13: 9 + 7: the same
        due.is("19 LONGING of two pairs", x.weddings(1), 16);
        due.is("20 the FIRST", x.mate(0), 1);
        x.change(3, 2, 1);
        // 2 and 3: 1 + 1; 0 and 3: 7 + 1, 1 and 2: 5 + 2; 0 and 2: 7 + 2, 1 and 3: 5 + 1
        due.is("19 LONGING", x.weddings(1), 15);
        due.is("20 more LONGING ahead of the least mate", x.mate(0) * 10 + x.mate(1), 23);
        due.is("20 the others", x.mate(2) * 10 + x.mate(3), 1);
    }

    private static void numbers() {
        OvenPairs x = new OvenPairs();
        for (int k = 0; k < 6; k++) x.oven(4, 5, 0, 1);
        due.is("18 fifteen", x.pairs(), 15);
        due.is("19 three", x.weddings(0), 3);
        due.is("19 all", x.weddings(1), 30);
        int[] mates = {1, 0, 3, 2, 5, 4};
        for (int o = 0; o < 6; o++) due.is("20 mate " + o, x.mate(o), mates[o]);
        x.remake(1, 3);
        int[] others = {2, 6, 0, 4, 3, 6};
        for (int o = 0; o < 6; o++) due.is("20 without 1, mate " + o, x.mate(o), others[o]);
        due.is("19 two", x.weddings(0), 2);
    }

    private static void chains() {
        OvenPairs x = new OvenPairs();
        x.oven(4, 5, 0, 1);
        x.oven(4, 5, 0, 1);
        due.is("21 one of them", x.chains(0), 1);
        due.is("21 how many", x.chains(1), 1);
        x.oven(4, 5, 0, 1);
        due.is("21 two of three", x.chains(0), 3);
        due.is("21 how many", x.chains(1), 2);
        Due.tell(x, "oven if number = 1 stay;");
        due.is("21 one stays", x.chains(0), 1);
        Due.tell(x, "oven if number = 0 stay;");
        due.is("21 the least set", x.chains(0), 2);
        Due.tell(x, "oven stay;");
        due.is("21 nobody goes", x.chains(0) + x.chains(1), 0);
        Due.tell(x, "oven if night < 11 stay;");
        due.is("21 in the last NIGHT", x.chains(1), 2);
        Due.tell(x, "oven if night < 12 stay;");
        due.is("21 END is no NIGHT of THE REST", x.chains(1), 0);
        x.rules();
        x.change(1, 4, 5);
        x.change(2, 4, 6);
        due.is("21 when they are back", x.chains(1), 2);
        x.change(1, 4, 9);
        x.change(2, 4, 9);
        x.ends(8);
        due.is("21 away to the end", x.chains(0), 0);
        due.is("21 asked only", x.state(0) + x.state(4), 1);
    }
}
