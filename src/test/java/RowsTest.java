/** Promises 36 to 39. */
public final class RowsTest {
    private static final Due due = new Due();

    public static void main(String[] args) {
        prove();
        proveFollowsTheTown();
        alter();
        judge();
        due.end();
    }

    /** Two that go off for 2 NIGHTS, the second of which bakes in even NIGHTS alone. */
    private static OvenPairs two() {
        OvenPairs x = new OvenPairs();
        x.oven(4, 5, 0, 3);
        x.oven(5, 5, 0, 4);
        return x;
    }

    private static void row(OvenPairs x, int k, int act, int worth, int homes) {
        due.is("37 ACT of " + k, x.row(k, 0), act);
        due.is("37 WORTH of " + k, x.row(k, 1), worth);
        due.is("37 at home behind " + k, x.row(k, 2), homes);
    }

    private static void prove() {
        OvenPairs x = two();
        due.is("36 none", x.prove(0), 0);
        due.is("37 none", x.row(0, 0), -9);
        due.is("39 none", x.judge(), 0);
        due.is("36 two", x.prove(2), 2);
        row(x, 0, 1, 7, 3);
        row(x, 1, 1, 3, 3);
        due.is("37 no third", x.row(2, 0), -9);
        due.is("37 below", x.row(-1, 0), -9);
        due.is("37 another what", x.row(0, 3), -9);
        due.is("37 another what", x.row(0, -1), -9);
        due.is("36 BAD", x.prove(5), OvenPairs.BAD);
        due.is("36 BAD", x.prove(-1), OvenPairs.BAD);
        due.is("36 BAD changes nothing", x.many(4), 2);
        due.is("36 nothing else changed", x.state(0) + x.state(2) + x.state(4), 3);
        Due.tell(x, "rake if night = 0 stay;");
        due.is("36 four", x.prove(4), 4);
        row(x, 0, 0, 7, 3);
        row(x, 3, 1, 3, 3);
        x.ends(1);
        due.is("36 fewer", x.prove(4), 1);
        due.is("36 the others are gone", x.row(1, 0), -9);
        x.rules();
        x.night();
        due.is("36 OVER", x.prove(4), 0);
        due.is("39 OVER, but no ROWS", x.judge(), 0);
    }

    private static void proveFollowsTheTown() {
        OvenPairs x = two();
        x.change(1, 4, 2);
        due.is("36 two", x.prove(2), 2);
        row(x, 0, 0, 3, 1);
        row(x, 1, 1, 3, 3);
        due.is("39 right", x.judge(), 0);
        OvenPairs rakes = new OvenPairs();
        rakes.oven(5, 5, 0, 9);
        rakes.oven(5, 5, 0, 9);
        due.is("36 two", rakes.prove(2), 2);
        row(rakes, 0, 1, 18, 3);
        row(rakes, 1, 0, 0, 0);
    }

    private static void alter() {
        OvenPairs x = two();
        x.prove(2);
        due.is("38 what it was", x.alterRow(1, 1, -77), 3);
        due.is("38 it is so", x.row(1, 1), -77);
        due.is("38 again", x.alterRow(1, 1, 3), -77);
        due.is("38 any number", x.alterRow(0, 2, Integer.MIN_VALUE), 3);
        due.is("38 any number", x.row(0, 2), Integer.MIN_VALUE);
        due.is("38 no such ROW", x.alterRow(2, 0, 1), -9);
        due.is("38 no such ROW", x.alterRow(-1, 0, 1), -9);
        due.is("38 another what", x.alterRow(0, 3, 1), -9);
        due.is("38 another what", x.alterRow(0, -1, 1), -9);
        due.is("38 none came", x.many(4), 2);
    }

    private static void judge() {
        OvenPairs x = two();
        x.prove(3);
        due.is("39 all is right", x.judge(), 0);
        x.alterRow(2, 2, 1);
        due.is("39 at home", x.judge(), 3);
        x.alterRow(1, 1, 4);
        due.is("39 WORTH, the first of two", x.judge(), 2);
        x.prove(3);
        x.alterRow(0, 0, 2);
        due.is("39 another PLAN may be as right", x.judge(), 0);
        x.alterRow(0, 0, 0);
        due.is("39 with nobody chained they go off", x.judge(), 1);
        x.alterRow(0, 1, 0);
        x.alterRow(0, 2, 0);
        due.is("39 so that is right, and the next isn't", x.judge(), 2);
        for (int act : new int[] {3, -1, 99, Integer.MIN_VALUE}) {
            x.prove(1);
            x.alterRow(0, 0, act);
            due.is("39 no ACT " + act, x.judge(), 1);
        }
        x.prove(3);
        x.ends(2);
        due.is("39 OVER ahead of the third", x.judge(), 3);
        x.ends(12);
        due.is("39 later again", x.judge(), 0);
        x.night();
        due.is("39 from how it is now", x.judge(), 1);
        due.is("39 asked only", x.state(0), 1);
        x.anew();
        due.is("39 as at first", x.judge(), 0);
        x.oven(3, 0, 0, 1);
        due.is("39 one more bakes", x.judge(), 1);
    }
}
