import com.sun.management.ThreadMXBean;
import java.lang.management.ManagementFactory;

/** Checks that calls make next to nothing: all that a run makes lives in one room of limited size. */
public final class RoomTest {
    private static final int CALLS = 500;
    /** The room has 7.3 million fields and elements; this allows an object some 9,000 of at most eight bytes. */
    private static final long MOST_BYTES_OF_A_RUN = 72_000;

    private static KindGrids x;

    public static void main(String[] args) {
        for (int warming = 0; warming < 3; warming++) {
            dearestRun();
        }
        ThreadMXBean threads = (ThreadMXBean) ManagementFactory.getThreadMXBean();
        long thread = Thread.currentThread().getId();
        long before = threads.getThreadAllocatedBytes(thread);
        dearestRun();
        long made = threads.getThreadAllocatedBytes(thread) - before;
        System.out.println("a run with its object makes " + made + " bytes");
        if (made > MOST_BYTES_OF_A_RUN) {
            System.out.println("more than " + MOST_BYTES_OF_A_RUN);
            System.exit(1);
        }
    }

    private static void dearestRun() {
        x = new KindGrids();
        for (int g = 0; g < 4; g++) {
            x.grid(g, 6);
            for (int p = 0; p < 6; p++) {
                x.row(g, p, 4, 6);
            }
        }
        x.keep(0);
        x.keep(1);
        for (char letter : "turn 0 1;turn 1 2;turn 2 3;turn 3 0;turn 0 1;turn 1 2;turn 2 3;drop 9;".toCharArray()) {
            x.type(letter);
        }
        for (int call = 0; call < CALLS; call += 10) {
            // The last of its eight steps returns an error, so that all is brought back.
            x.plan();
            x.turn(0, 1);
            x.times(0, 1, 2);
            x.patches(0);
            x.block(0);
            x.lies(0, 1, 0);
            x.keep(call % 2);
            x.back(call % 2);
            x.digest();
            x.next();
        }
    }
}
