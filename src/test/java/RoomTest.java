import com.sun.management.ThreadMXBean;
import java.lang.management.ManagementFactory;

/**
 * LANGUAGE.md, rule 12: what the calls make is counted. An object takes its rows as it is made; behind that, only the
 * ROWS of a TABLE that is longer than all before may take more.
 */
public final class RoomTest {
    private static final ThreadMXBean THREADS = (ThreadMXBean) ManagementFactory.getThreadMXBean();
    /** 73,000 numbers: there is room for a hundred such objects. */
    private static final long OF_AN_OBJECT = 4 * 73000;
    private static final long OF_ROWS = 65536;
    private static final long NEXT_TO_NOTHING = 1024;
    private static final int TIMES = 500;

    private RoomTest() {
    }

    public static void main(String[] args) {
        Check.about("rule 12: what is made is counted, and kept small");
        tryAll(new UnwindTower());
        long before = made();
        UnwindTower x = new UnwindTower();
        long ofObject = made() - before;
        Check.same("an object of " + ofObject + " bytes is small", ofObject <= OF_AN_OBJECT, true);
        before = made();
        build(x);
        x.prune(false);
        x.many(6);
        long ofRows = made() - before;
        Check.same("room for its rows of " + ofRows + " bytes is small", ofRows <= OF_ROWS, true);
        before = made();
        tellAndAsk(x);
        long ofCalls = made() - before;
        Check.same(TIMES + " calls of each sort make next to nothing: " + ofCalls, ofCalls <= NEXT_TO_NOTHING, true);
        Check.end();
    }

    private static long made() {
        return THREADS.getThreadAllocatedBytes(Thread.currentThread().getId());
    }

    /** What the machine makes as a class is used for the first time is not counted. */
    private static void tryAll(UnwindTower x) {
        made();
        build(x);
        tellAndAsk(x);
        Check.count();
    }

    /** MAIN throws in 30 PROCEDURES within each other, and prints; its TABLE has a ROW for each CATCH and piece. */
    private static void build(UnwindTower x) {
        int closes = x.procedure(0);
        x.body(closes, x.node(3, 0, 1, 0));
        int b = x.node(9, 0, 0, 0);
        for (int k = 0; k < 9; k++) {
            int leaves = x.node(5, 101, x.node(8, 0, k, 0), -1);
            b = x.node(4, 0, leaves, b);
        }
        int used = x.node(13, -1, b, closes);
        int next = -1;
        for (int kind = 0; kind <= 4; kind++) {
            int caught = x.node(4, 0, x.node(16, 0, 0, 0), x.node(15, kind, 7, 0));
            next = x.node(12, kind, caught, next);
        }
        x.body(0, x.node(11, x.node(3, 0, 2, 0), used, next));
        x.limits(3000, 30);
    }

    private static void tellAndAsk(UnwindTower x) {
        for (int k = 0; k < TIMES; k++) {
            x.prune(k % 2 == 0);
            x.tell(1, k % 32);
            x.run();
            x.wouldRun(3000, 30, 3);
            x.faultsWith(1, 0);
            x.digest();
            x.ofKind(0, 3);
            x.ofProcedure(0, 4);
            x.ofNode(0, 5);
            x.code(0, 0, 0);
            x.row(0, 0, 0);
            x.ofRun(3);
            x.printed(0, 0);
            x.exception(0, 3);
            x.suppressed(0, 0);
            x.trace(0, 0);
            x.held(10);
            x.meanPrinted();
            x.many(6);
            x.catcher(0, 0);
        }
    }
}
