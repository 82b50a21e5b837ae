import com.sun.management.ThreadMXBean;
import java.lang.management.ManagementFactory;

/** All that an object needs is made with it: its calls take no room. */
public final class RoomTest {
    private static final Check CHECK = new Check("RoomTest");
    private static final ThreadMXBean THREADS = (ThreadMXBean) ManagementFactory.getThreadMXBean();

    public static void main(String[] args) {
        String text = "trader;scale 0 0 10 5000;set 12 maybe;set 9;mass 1000;mass 500;mass 30;mass 7;mass 8;mass 9;";
        int[][] words = new int[5][];
        for (int i = 0; i < words.length; i++) {
            words[i] = Text.words(text, 20 * i);
        }
        // The first run loads classes.
        run(new ScaleInspection(), words);
        long before = allocated();
        ScaleInspection x = new ScaleInspection();
        long made = allocated() - before;
        CHECK.due("an object of " + made + " bytes takes at most 80000", true, made <= 80000);
        before = allocated();
        run(x, words);
        long taken = allocated() - before;
        CHECK.due("calls that take " + taken + " bytes take at most 2000", true, taken <= 2000);
        CHECK.finish();
    }

    private static long allocated() {
        return THREADS.getThreadAllocatedBytes(Thread.currentThread().getId());
    }

    private static void run(ScaleInspection x, int[][] words) {
        for (int turn = 0; turn < 10; turn++) {
            for (int[] w : words) {
                x.append(w[0], w[1], w[2], w[3], w[4]);
            }
            x.parse(turn == 3 ? 99 : 95);
            x.startVisit(0, 5);
            x.record(0, 0, 0);
            x.record(0, 3, 1500);
            x.verdict(0);
            x.adjustedVerdict(0);
            x.closeVisit(0);
            x.saveSnapshot(0);
            x.risk(0, 5);
            x.riskiestTrader(5);
            x.lot(turn, 0, 5);
            x.scalesWith(3, 5);
            x.fewestMasses(1530);
            x.closestLoad(1530);
            x.twoPans(500);
            x.weigh(0, 1, 2, 1);
            for (int set = 0; set < 2; set++) {
                x.weighingsNeeded(set);
                x.bestLeft(set);
                x.bestRight(set);
                x.finding(set);
            }
            x.fewestWeighings(2 + turn, true);
            x.undo();
            x.restoreSnapshot(0);
        }
    }
}
