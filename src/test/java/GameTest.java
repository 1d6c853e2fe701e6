/** Promises 27 to 35. */
public final class GameTest {
    private static final Due due = new Due();

    public static void main(String[] args) {
        game();
        gameOver();
        reports();
        kindsOfReports();
        liars();
        lots();
        times();
        due.end();
    }

    private static OvenPairs two() {
        OvenPairs x = new OvenPairs();
        x.oven(4, 5, 0, 3);
        x.oven(4, 5, 0, 4);
        return x;
    }

    private static void game() {
        OvenPairs x = two();
        due.is("27 the first chains", x.game(1), 7);
        due.is("28 the least of two", x.play(1), 1);
        due.is("27 the other one doesn't", x.game(2), 7);
        due.is("28 at once", x.play(2), 1);
        due.is("27 they are away", x.game(3), 7);
        // letting them go now, they are back when the first one plays again
        due.is("28 later is as good", x.play(3), 0);
        due.is("27 four", x.game(4), 7);
        due.is("28 four", x.play(4), 0);
        due.is("27 asked only", x.state(0) + x.state(2) + x.state(4), 3);
        for (int n : new int[] {0, 5, -1, Integer.MAX_VALUE}) {
            due.is("27 BAD", x.game(n), OvenPairs.BAD);
            due.is("28 BAD", x.play(n), OvenPairs.BAD);
        }
        OvenPairs spite = two();
        spite.oven(4, 4, 0, 9);
        // the warm two go off, if nobody is chained; with 0 chained 1 and 2 go
        due.is("27 the dearest bakes", spite.game(1), 9);
        due.is("28 nobody is chained for it", spite.play(1), 0);
        spite.change(0, 4, 9);
        due.is("27 chained, both bake", spite.game(1), 13);
        due.is("27 then they may go", spite.game(2), 13);
        due.is("28 the least of them", spite.play(2), 2);
        due.is("27 nobody is", new OvenPairs().game(4), 0);
    }

    private static void gameOver() {
        OvenPairs x = two();
        x.ends(1);
        due.is("27 one NIGHT is left", x.game(4), 7);
        due.is("28 one NIGHT is left", x.play(4), 1);
        x.night();
        due.is("27 OVER", x.game(2), 0);
        due.is("28 OVER", x.play(2), OvenPairs.NONE);
        due.is("28 BAD ahead of NONE", x.play(0), OvenPairs.BAD);
    }

    private static void reports() {
        OvenPairs x = new OvenPairs();
        int[][] bad = {{0, 0, 0, 0}, {6, 0, 0, 0}, {1, -1, 0, 0}, {1, 16, 0, 0}, {1, 0, -21, 0}, {1, 0, 0, 21}, {1, 0, 21, 21},
            {1, 0, -21, -21}, {1, 0, 3, 2}, {1, 0, Integer.MIN_VALUE, Integer.MAX_VALUE}};
        for (int[] b : bad) due.is("29 BAD", x.report(b[0], b[1], b[2], b[3]), OvenPairs.BAD);
        due.is("30 none", x.forget(), 0);
        due.is("31 all fit", x.span(0), 160);
        due.is("31 the first PLACE", x.span(1), 0);
        due.is("31 the first WARM", x.span(2), 0);
        due.is("29 widest", x.report(1, 0, -20, 20), 0);
        due.is("31 all fit still", x.span(0), 160);
        due.is("29 the next", x.report(4, 15, 20, 20), 1);
        due.is("31 none fits", x.span(0), 0);
        due.is("31 NONE", x.span(1), OvenPairs.NONE);
        due.is("31 NONE", x.span(2), OvenPairs.NONE);
        due.is("31 BAD", x.span(3), OvenPairs.BAD);
        due.is("31 BAD", x.span(-1), OvenPairs.BAD);
        for (int k = 2; k < 6; k++) due.is("29 number", x.report(3, 3, -1, -1), k);
        due.is("29 FULL", x.report(3, 3, -1, -1), OvenPairs.FULL);
        for (int[] b : bad) due.is("29 BAD ahead of FULL", x.report(b[0], b[1], b[2], b[3]), OvenPairs.BAD);
        due.is("29 six", x.many(3), 6);
        due.is("30 six", x.forget(), 6);
        due.is("30 none is left", x.many(3), 0);
        due.is("31 all fit again", x.span(0), 160);
    }

    private static void fits(int kind, int place, int felt, int many, int firstPlace, int firstWarm) {
        OvenPairs x = new OvenPairs();
        x.report(kind, place, felt, felt);
        String told = kind + " " + place + " " + felt;
        due.is("31 how many by " + told, x.span(0), many);
        due.is("31 PLACE by " + told, x.span(1), firstPlace);
        due.is("31 WARM by " + told, x.span(2), firstWarm);
    }

    private static void kindsOfReports() {
        // widowed: WARM - FAR - 3
        fits(1, 4, 6, 1, 4, 9);
        fits(1, 4, 5, 3, 3, 9);
        fits(1, 0, -18, 1, 15, 0);
        // range: WARM 5 or more; -1 else, or where it is 1 more than WARM away
        fits(2, 0, 9, 1, 0, 9);
        fits(2, 0, 0, 5, 5, 5);
        fits(2, 15, -1, 85, 0, 0);
        fits(2, 0, 4, 5, 1, 5);
        // doored: -1 always
        fits(3, 7, -1, 160, 0, 0);
        fits(3, 7, 0, 0, OvenPairs.NONE, OvenPairs.NONE);
        // portable: WARM
        fits(4, 9, 4, 16, 0, 4);
        // a rake's number is greater: nothing comes to it
        fits(5, 9, 4, 16, 0, 4);
        fits(5, 9, 0, 16, 0, 0);
        fits(5, 9, 10, 0, OvenPairs.NONE, OvenPairs.NONE);
    }

    private static void liars() {
        OvenPairs x = new OvenPairs();
        due.is("32 no REPORTS", x.liar(), OvenPairs.NONE);
        x.report(4, 0, 0, 0);
        due.is("32 the very first FITS", x.liar(), OvenPairs.NONE);
        x.forget();
        x.report(4, 0, 5, 5);
        due.is("32 some FIT", x.liar(), OvenPairs.NONE);
        x.report(4, 0, 6, 6);
        due.is("32 either of two: the least", x.liar(), 0);
        x.report(5, 0, 5, 9);
        due.is("32 still the least", x.liar(), 0);
        x.report(5, 0, 4, 5);
        due.is("32 but for 1 the others fit", x.liar(), 1);
        x.report(3, 0, 0, 0);
        due.is("32 two wrong ones", x.liar(), OvenPairs.NONE);
        x.forget();
        x.report(3, 0, 0, 0);
        due.is("32 one alone", x.liar(), 0);
        due.is("32 asked only", x.many(3), 1);
    }

    private static void lots() {
        OvenPairs x = two();
        due.is("33 1 at first", x.seed(-5), 1);
        due.is("33 what it was", x.seed(1), -5);
        // z >>> 16 is 16838, 38526, 10113, ..: by 3 ACTS 2, 0, 0
        due.is("34 one is chained", x.lot(), 7);
        due.is("34 nobody is", x.lot(), 0);
        due.is("34 they are away", x.lot(), 0);
        due.is("34 NIGHT", x.state(0), 3);
        due.is("34 SCORE", x.state(2), 7);
        due.is("34 z", x.seed(1), 662824084);
        x.ends(3);
        due.is("34 STATE", x.lot(), OvenPairs.STATE);
        due.is("34 z stays then", x.seed(1), 1);
        OvenPairs empty = new OvenPairs();
        due.is("34 nobody bakes", empty.lot(), 0);
        due.is("34 z goes on all the same", empty.seed(0), 1103527590);
        // z becomes 12345: its upper half is 0, though the number isn't
        OvenPairs none = two();
        none.seed(0);
        due.is("34 ACT 0", none.lot(), 0);
    }

    private static void times() {
        OvenPairs x = two();
        x.ends(2);
        // by 3 ACTS: 2 0, 0 0, ..: the first time is WORTH 7, the second 0
        due.is("35 once 7", x.times(1, 7), 1);
        due.is("35 once 8", x.times(1, 8), 0);
        due.is("35 z goes on", x.times(2, 1), 1);
        due.is("35 0 always", x.times(40, 0), 40);
        due.is("35 most", x.times(40, 999), 0);
        due.is("35 asked only", x.state(0) + x.state(2) + x.state(4), 3);
        due.is("35 z is as it was", x.seed(1), 1);
        for (int n : new int[] {0, 41, -1}) due.is("35 BAD n", x.times(n, 0), OvenPairs.BAD);
        for (int v : new int[] {-1, 1000}) due.is("35 BAD v", x.times(1, v), OvenPairs.BAD);
        x.night();
        x.night();
        due.is("35 OVER: 0", x.times(5, 0), 5);
        due.is("35 OVER: 1", x.times(5, 1), 0);
    }
}
