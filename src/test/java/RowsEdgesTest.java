import java.util.function.Supplier;

/** The edges of promises 36 to 39: ROWS, and who reads them. */
public final class RowsEdgesTest {
    private static final Due due = new Due();
    private static final Twins twins = new Twins(due);
    private static final int LEAST = Integer.MIN_VALUE, MOST = Integer.MAX_VALUE;
    private static final int DOORED = 3, PORTABLE = 4;

    public static void main(String[] args) {
        rowsFromNoneToFour();
        badProve();
        rowsInPlaceOfAll();
        nothingButRows();
        boundsOfRow();
        boundsOfAlterRow();
        anyNumber();
        noRowsAreRight();
        firstThatIsNotAndOneMore();
        actIsOne();
        ifItIsNotOver();
        worthAndHomesToTheEnds();
        fromHowItIsNow();
        due.end();
    }

    /** Two that go off for 2 NIGHTS. */
    private static OvenPairs couple() {
        OvenPairs x = new OvenPairs();
        x.oven(PORTABLE, 5, 0, 3);
        x.oven(PORTABLE, 5, 0, 4);
        return x;
    }

    private static Supplier<OvenPairs> proven(int n) {
        return () -> {
            OvenPairs x = Twins.rich();
            x.anew();
            x.prove(n);
            return x;
        };
    }

    private static void rowsFromNoneToFour() {
        for (int n = 0; n <= 4; n++) {
            OvenPairs x = couple();
            due.is("36 how many of " + n, x.prove(n), n);
            due.is("36 there are " + n, x.many(4), n);
            for (int k = 0; k < 4; k++) {
                due.is("37 ACT of " + k, x.row(k, 0), k < n ? 1 : -9);
                due.is("37 WORTH of " + k, x.row(k, 1), k < n ? 7 : -9);
                due.is("37 at home of " + k, x.row(k, 2), k < n ? 3 : -9);
            }
            due.is("39 all is right", x.judge(), 0);
            for (int left = 0; left <= 4; left++) {
                OvenPairs y = couple();
                y.ends(5);
                for (int k = 0; k < 5 - left; k++) y.night();
                due.is("36 " + n + " of " + left + " left", y.prove(n), Math.min(n, left));
                due.is("36 there are so many", y.many(4), Math.min(n, left));
            }
            due.is("36 of nobody", new OvenPairs().prove(n), n);
        }
    }

    private static void badProve() {
        for (int n : new int[] {-1, 5, LEAST, MOST}) {
            twins.still("36 BAD " + n, x -> x.prove(n), OvenPairs.BAD);
            twins.still("36 BAD of four ROWS " + n, proven(4), x -> x.prove(n), OvenPairs.BAD);
        }
    }

    private static void rowsInPlaceOfAll() {
        OvenPairs x = couple();
        x.prove(4);
        due.is("36 one in place of four", x.prove(1), 1);
        due.is("37 the second is gone", x.row(1, 0), -9);
        due.is("36 none in place of one", x.prove(0), 0);
        due.is("37 the first is gone", x.row(0, 0), -9);
        x.prove(2);
        x.alterRow(0, 1, 99);
        x.prove(2);
        due.is("36 new ones", x.row(0, 1), 7);
        x.ends(1);
        x.night();
        due.is("36 none when it is OVER", x.prove(4), 0);
        due.is("36 none at all", x.many(4), 0);
    }

    private static void nothingButRows() {
        twins.alike("36 nothing but ROWS", Twins::rich, x -> {
            x.prove(4);
            x.prove(3);
        }, x -> { });
        twins.asks("37", x -> x.row(2, 2));
        twins.asks("39", x -> x.judge());
        twins.alike("38 there and back", Twins::rich, x -> x.alterRow(2, 0, x.alterRow(2, 0, 77)), x -> { });
    }

    private static void boundsOfRow() {
        for (int n = 0; n <= 4; n++) {
            int many = n;
            for (int what = 0; what <= 2; what++) {
                int one = what;
                twins.still("37 -9: none such, " + n, proven(n), x -> x.row(many, one), -9);
                if (n > 0) due.is("37 the last", proven(n).get().row(n - 1, what) == -9 ? 1 : 0, 0);
            }
        }
        for (int k : new int[] {-1, 3, 4, LEAST, MOST}) twins.still("37 -9: ROW " + k, x -> x.row(k, 0), -9);
        for (int what : new int[] {-1, 3, LEAST, MOST}) {
            for (int k = 0; k < 3; k++) {
                int one = k;
                twins.still("37 -9: another what " + what, x -> x.row(one, what), -9);
            }
            due.is("37 -9: both", new OvenPairs().row(0, what), -9);
        }
    }

    private static void boundsOfAlterRow() {
        for (int n = 0; n <= 4; n++) {
            int many = n;
            twins.still("38 -9: none such, " + n, proven(n), x -> x.alterRow(many, 0, 1), -9);
        }
        for (int k : new int[] {-1, 3, 4, LEAST, MOST}) {
            for (int what = 0; what <= 2; what++) {
                int one = what;
                twins.still("38 -9: ROW " + k, x -> x.alterRow(k, one, 1), -9);
            }
        }
        for (int what : new int[] {-1, 3, LEAST, MOST}) {
            for (int k = 0; k < 3; k++) {
                int one = k;
                twins.still("38 -9: another what " + what, x -> x.alterRow(one, what, 1), -9);
            }
        }
    }

    private static void anyNumber() {
        for (int k = 0; k < 4; k++) {
            for (int what = 0; what <= 2; what++) {
                OvenPairs x = proven(4).get();
                int was = x.row(k, what);
                for (int v : new int[] {LEAST, MOST, -9, 0, -1}) {
                    due.is("38 what it was", x.alterRow(k, what, v), was);
                    due.is("38 it becomes " + v, x.row(k, what), v);
                    was = v;
                }
                x.alterRow(k, what, proven(4).get().row(k, what));
                due.same("38 no other one changed", Twins.seen(x), Twins.seen(proven(4).get()));
            }
        }
    }

    private static void noRowsAreRight() {
        due.is("39 no ROWS", new OvenPairs().judge(), 0);
        OvenPairs x = couple();
        x.ends(1);
        x.night();
        due.is("39 no ROWS, OVER", x.judge(), 0);
    }

    private static void firstThatIsNotAndOneMore() {
        for (int wrong = 0; wrong < 4; wrong++) {
            for (int what = 0; what <= 2; what++) {
                OvenPairs x = couple();
                x.prove(4);
                x.alterRow(wrong, what, what == 0 ? 0 : 9);
                due.is("39 the first that isn't: " + wrong, x.judge(), wrong + 1);
                x.alterRow(3, 2, 99);
                due.is("39 of two the first", x.judge(), wrong + 1);
            }
        }
        OvenPairs x = couple();
        x.prove(4);
        x.alterRow(3, 0, 2);
        due.is("39 another ACT with the same WORTH and homes is right", x.judge(), 0);
    }

    private static void actIsOne() {
        for (int ovens = 0; ovens <= 6; ovens++) {
            OvenPairs x = new OvenPairs();
            for (int k = 0; k < ovens; k++) x.oven(DOORED, 0, 0, 1);
            x.prove(1);
            for (int act = -2; act <= 9; act++) {
                x.alterRow(0, 0, act);
                due.is("39 ACT " + act + " of " + ovens, x.judge(), act >= 0 && act <= ovens ? 0 : 1);
            }
            for (int act : new int[] {LEAST, MOST, 32, 33, -32}) {
                x.alterRow(0, 0, act);
                due.is("39 no ACT " + act, x.judge(), 1);
            }
        }
    }

    private static void ifItIsNotOver() {
        for (int end = 1; end <= 4; end++) {
            OvenPairs x = couple();
            x.prove(4);
            x.ends(end);
            due.is("39 OVER ahead of ROW " + end, x.judge(), end == 4 ? 0 : end + 1);
        }
        OvenPairs x = couple();
        x.prove(4);
        for (int k = 0; k < 12; k++) x.night();
        due.is("39 OVER ahead of the first", x.judge(), 1);
        x.anew();
        due.is("39 as it was", x.judge(), 0);
    }

    private static void worthAndHomesToTheEnds() {
        OvenPairs x = couple();
        x.prove(1);
        for (int v : new int[] {6, 8, 0, -7, LEAST, MOST, 7 + 65536}) {
            x.alterRow(0, 1, v);
            due.is("39 WORTH " + v, x.judge(), 1);
        }
        x.alterRow(0, 1, 7);
        for (int v : new int[] {1, 2, 0, 7, -1, 67, LEAST, MOST}) {
            x.alterRow(0, 2, v);
            due.is("39 at home " + v, x.judge(), 1);
        }
        x.alterRow(0, 2, 3);
        due.is("39 right again", x.judge(), 0);
        OvenPairs six = new OvenPairs();
        for (int k = 0; k < 6; k++) six.oven(DOORED, 9, 0, 9);
        six.prove(4);
        due.is("37 the most WORTH", six.row(3, 1), 114);
        due.is("37 all at home", six.row(3, 2), 63);
        for (int o = 0; o < 6; o++) six.change(o, 4, 9);
        six.prove(4);
        due.is("37 no WORTH", six.row(3, 1), 0);
        due.is("37 nobody at home", six.row(3, 2), 0);
    }

    private static void fromHowItIsNow() {
        OvenPairs x = couple();
        x.prove(2);
        x.change(0, 4, 1);
        due.is("39 back behind the first NIGHT's (1)", x.judge(), 0);
        x.change(0, 4, 2);
        due.is("39 not back", x.judge(), 1);
        x.change(0, 4, 0);
        x.change(1, 3, 5);
        due.is("39 another FIRE", x.judge(), 1);
        x.change(1, 3, 4);
        due.is("39 as it was", x.judge(), 0);
        Due.tell(x, "oven if night=1 stay;");
        due.is("39 other RULES, the same WORTH", x.judge(), 0);
    }
}
