import com.sun.management.ThreadMXBean;
import java.lang.management.ManagementFactory;

/** All calls of a run live in one room: 512 of the dearest calls make next to nothing. */
public final class RoomTest {
    private static final Due due = new Due();
    private static final int CALLS = 512;
    /** A run of 512 calls may make this much, told in bytes; the room has 7.3 million fields and elements. */
    private static final long MOST = 600_000;

    public static void main(String[] args) {
        ThreadMXBean threads = (ThreadMXBean) ManagementFactory.getThreadMXBean();
        long me = Thread.currentThread().getId();
        for (int which = -1; which < 24; which++) {
            // the first round loads classes, which is no room of ours
            run(Math.max(0, which), new OvenPairs());
            long before = threads.getThreadAllocatedBytes(me);
            run(Math.max(0, which), new OvenPairs());
            long made = threads.getThreadAllocatedBytes(me) - before;
            if (made > MOST) System.out.println("run " + which + " made " + made + " bytes");
            due.is("room of run " + which, made > MOST ? 1 : 0, 0);
        }
        due.end();
    }

    private static void run(int which, OvenPairs x) {
        for (int k = 0; k < 6; k++) x.oven(k % 5 + 1, 5 + k % 4, k, k + 1);
        x.shelf(0, 0, 3);
        x.sheet(0, 0, 40);
        for (int k = 0; k < CALLS; k++) call(which, k, x);
    }

    private static void call(int which, int k, OvenPairs x) {
        switch (which) {
            case 0: x.keep(); x.again(); break;
            case 1: x.best(3); break;
            case 2: x.ith(3, 2); break;
            case 3: x.ways(3); break;
            case 4: x.kept(3, 7); break;
            case 5: x.bars(3, 63); break;
            case 6: x.game(3); break;
            case 7: x.play(3); break;
            case 8: x.prove(3); x.judge(); break;
            case 9: x.times(40, 100); break;
            case 10: x.placeFor(2); break;
            case 11: x.warmFor(2); break;
            case 12: x.chains(0); break;
            case 13: x.mate(5); x.weddings(1); break;
            case 14: x.span(0); x.liar(); break;
            case 15: x.act(0, 2, k); break;
            case 16: x.sheet(k % 4, k % 5, 40); x.shelf(k % 4, 1, k % 4); break;
            case 17: x.goAll(0, 0, 20); x.wouldBe(0, 0, 20); break;
            case 18: x.rules(); break;
            case 19: if (k % 26 < 25) x.feed(0x3d316e6f74206e6fL, 8); else x.rules(); break;
            case 20: Due.tell(x, "oven if 1=1or 1=1go;"); break;
            case 21: x.remake(k % 6, k % 5 + 1); x.change(k % 6, 1, k % 10); break;
            case 22: x.night(); x.anew(); x.lot(); break;
            default: x.report(1, 1, 1, 1); x.forget(); x.on(16); x.often(1); break;
        }
    }
}
