/** Promises 12 to 17. */
public final class NightsTest {
    private static final Due due = new Due();

    public static void main(String[] args) {
        night();
        ways();
        shynessAndStaying();
        rest();
        settings();
        due.end();
    }

    /** Two portables that go off for 2 nights, and a doored one that BAKES 3. */
    private static OvenPairs couple() {
        OvenPairs x = new OvenPairs();
        x.oven(4, 5, 0, 3);
        x.oven(4, 5, 3, 4);
        x.oven(3, 0, 0, 1);
        return x;
    }

    private static void night() {
        OvenPairs x = couple();
        due.is("12 they go off", x.night(), 3);
        due.is("12 AWAY", x.ovenOf(0, 4) * 10 + x.ovenOf(1, 4), 22);
        due.is("12 away", x.night(), 3);
        due.is("12 AWAY", x.ovenOf(0, 4) * 10 + x.ovenOf(1, 4), 11);
        due.is("12 back, and off in the same NIGHT", x.night(), 3);
        due.is("12 AWAY", x.ovenOf(0, 4) * 10 + x.ovenOf(1, 4), 22);
        x.change(0, 4, 0);
        due.is("12 one whose mate is away stays at home", x.night(), 6);
        due.is("12 SCORE", x.state(2), 15);
        due.is("12 NIGHT", x.state(0), 4);
        x.ends(5);
        due.is("12 the last", x.night(), 3);
        due.is("12 STATE", x.night(), OvenPairs.STATE);
        due.is("12 NIGHT", x.state(0), 5);
        due.is("12 SCORE", x.state(2), 18);
        OvenPairs rake = new OvenPairs();
        rake.oven(5, 5, 5, 6);
        due.is("12 a rake in an even NIGHT", rake.night(), 6);
        due.is("12 a rake in an odd NIGHT", rake.night(), 0);
        due.is("12 a rake in an even NIGHT", rake.night(), 6);
        due.is("12 nobody bakes in an empty town", new OvenPairs().night(), 0);
    }

    private static void ways() {
        for (int far = 0; far <= 15; far++) {
            OvenPairs x = new OvenPairs();
            x.oven(4, 5, 15 - far, 1);
            x.oven(4, 5, 15, 1);
            x.night();
            due.is("12 AWAY by FAR " + far, x.ovenOf(0, 4) * 10 + x.ovenOf(1, 4), (2 + far / 4) * 11);
        }
        OvenPairs x = new OvenPairs();
        x.oven(4, 9, 0, 1);
        x.oven(4, 8, 0, 1);
        x.oven(4, 7, 0, 1);
        x.oven(4, 6, 0, 1);
        due.is("12 the third and the fourth want the first", x.night(), 2);
        due.is("12 two went", x.state(4), 12);
        due.is("12 now they want one another", x.night(), 0);
        due.is("12 all are away", x.state(4), 0);
        due.is("12 the first two are back and off", x.night(), 0);
        due.is("12 AWAY", x.ovenOf(0, 4) * 100 + x.ovenOf(1, 4) * 10 + x.ovenOf(2, 4), 221);
        OvenPairs chain = new OvenPairs();
        chain.oven(4, 5, 0, 1);
        chain.oven(3, 9, 0, 1);
        due.is("12 a LONGING that isn't answered moves nobody", chain.night(), 4);
    }

    private static void shynessAndStaying() {
        OvenPairs x = couple();
        Due.tell(x, "portable if night = 0 stay; oven if number = 0 and night = 1 shy;");
        due.is("12 both stay", x.night(), 10);
        x.change(1, 1, 3);
        due.is("12 the shy one doesn't", x.night(), 10);
        due.is("12 in the next NIGHT they go", x.night(), 3);
        OvenPairs one = couple();
        Due.tell(one, "oven if number = 1 stay;");
        due.is("12 one stays", one.night(), 10);
        OvenPairs shy = couple();
        Due.tell(shy, "oven shy;");
        due.is("12 shy ones that long above 3 go", shy.night(), 3);
    }

    private static void rest() {
        OvenPairs x = couple();
        due.is("13 0", x.on(0), 0);
        due.is("13 3", x.on(3), 9);
        due.is("13 all", x.on(16), 36);
        due.is("13 BAD", x.on(17), OvenPairs.BAD);
        due.is("13 BAD", x.on(-1), OvenPairs.BAD);
        due.is("13 nothing changed", x.state(0) + x.state(2) + x.state(4), 7);
        due.is("14 at once", x.goes(0), 0);
        due.is("14 never", x.goes(2), OvenPairs.NONE);
        due.is("14 BAD", x.goes(3), OvenPairs.BAD);
        due.is("14 BAD", x.goes(-1), OvenPairs.BAD);
        due.is("15 each second NIGHT", x.often(1), 6);
        due.is("15 never", x.often(2), 0);
        due.is("15 BAD", x.often(3), OvenPairs.BAD);
        due.is("15 BAD", x.often(-1), OvenPairs.BAD);
        x.change(1, 4, 4);
        due.is("13 the first is at home till the other one is back", x.on(4), 21);
        due.is("14 when it is back", x.goes(0), 3);
        due.is("15 fewer", x.often(0), 5);
        x.ends(3);
        due.is("13 to END", x.on(16), 18);
        due.is("14 not till END", x.goes(0), OvenPairs.NONE);
        due.is("15 not till END", x.often(0), 0);
        x.ends(9);
        for (int k = 0; k < 5; k++) x.night();
        due.is("14 NIGHTS are numbered from the first", x.goes(0), 5);
        due.is("15 in THE REST", x.often(0), 2);
        x.ends(5);
        due.is("13 OVER", x.on(16), 0);
        due.is("14 OVER", x.goes(0), OvenPairs.NONE);
        due.is("15 OVER", x.often(0), 0);
    }

    private static void settings() {
        OvenPairs x = couple();
        due.is("17 cold ones aren't longed for", x.warmFor(0), 0);
        due.is("16 portables go wherever they stand", x.placeFor(0), 0);
        x.remake(0, 1);
        // from 0 the widowed one longs 5 - 3 - 3 for the portable at 3: both are at home
        due.is("16 where it longs for nobody", x.placeFor(0), 0);
        x.change(1, 2, 0);
        due.is("16 2 off, its LONGING is 0", x.placeFor(0), 2);
        due.is("17 cold again", x.warmFor(0), 0);
        x.change(0, 1, 0);
        x.change(0, 2, 1);
        due.is("16 nobody longs for it now", x.placeFor(0), 0);
        due.is("16 its PLACE is as it was", x.ovenOf(0, 2), 1);
        due.is("17 its WARM is as it was", x.ovenOf(0, 1), 0);
        due.is("17 of another one", x.warmFor(1), 0);
        due.is("16 BAD", x.placeFor(3), OvenPairs.BAD);
        due.is("16 BAD", x.placeFor(-1), OvenPairs.BAD);
        due.is("17 BAD", x.warmFor(3), OvenPairs.BAD);
        due.is("17 BAD", x.warmFor(-1), OvenPairs.BAD);
        OvenPairs lure = new OvenPairs();
        // two that would go off bake at home while both long for one that refuses everybody
        lure.oven(4, 5, 0, 9);
        lure.oven(4, 5, 0, 9);
        lure.oven(3, 1, 0, 1);
        due.is("17 warmer than 5, both long for the doored one", lure.warmFor(2), 6);
        due.is("17 asked only", lure.on(1), 3);
        lure.change(0, 1, 8);
        lure.change(1, 1, 8);
        due.is("17 the most", lure.warmFor(2), 9);
        Due.tell(lure, "portable if place > 14 stay;");
        due.is("16 the most", lure.placeFor(0), 15);
        Due.tell(lure, "portable if place > 3 stay;");
        due.is("16 where the RULE holds", lure.placeFor(0), 4);
        Due.tell(lure, "portable if warm > 6 stay;");
        due.is("17 of several the least", lure.warmFor(0), 0);
        lure.ends(1);
        lure.night();
        due.is("16 OVER: all are the same", lure.placeFor(0), 0);
        due.is("17 OVER: all are the same", lure.warmFor(2), 0);
    }
}
