/**
 * Rows of calls with numbers of all sorts: a call answers, or throws just what the document names for it, and then
 * changes nothing.
 */
public final class WildCallsTest {
    private static final int OBJECTS = 400;
    private static final int CALLS = 400;
    private static final int[] EDGES = {-1, 0, 1, 2, 3, 4, 5, 8, 9, 10, 13, 18, 19, 29, 30, 31, 32, 39, 40, 89, 90, 99, 100,
        109, 110, 300, 800, 3000, 3001, 8191, 8192, -2, -99, -100, Integer.MIN_VALUE, Integer.MAX_VALUE};

    /** Of each call how many numbers it takes, and which exceptions it may throw: 1 bounds, 2 argument, 4 state. */
    private static final int[][] CALLS_OF = {{2, 5}, {2, 3}, {1, 6}, {2, 3}, {2, 3}, {4, 6}, {2, 7}, {2, 3}, {2, 3}, {1, 0},
        {3, 3}, {3, 3}, {2, 2}, {0, 4}, {1, 2}, {2, 3}, {2, 3}, {2, 1}, {2, 1}, {1, 1}, {0, 0}, {1, 2}, {3, 6}, {2, 1},
        {2, 3}, {0, 0}};

    private static long state = 7;

    private WildCallsTest() {
    }

    public static void main(String[] args) {
        int[] threw = new int[CALLS_OF.length];
        int[] answered = new int[CALLS_OF.length];
        for (int k = 0; k < OBJECTS; k++) {
            Check.about("object " + k);
            Tower x = k % 2 == 0 ? new Tower() : ran(k);
            for (int call = 0; call < CALLS; call++) {
                one(x, threw, answered, k % 2 == 0 ? 50 : 3);
            }
        }
        for (int call = 0; call < CALLS_OF.length; call++) {
            Check.same("whether call " + call + " ever answered", answered[call] > 0, true);
            Check.same("whether call " + call + " ever threw", threw[call] > 0, CALLS_OF[call][1] != 0);
        }
        nested();
        Check.end();
    }

    private static Tower ran(int seed) {
        Programs programs = new Programs(seed, true);
        programs.make();
        if (programs.tower.many(4) == 0) {
            programs.tower.run();
        }
        return programs.tower;
    }

    /** nodes: how many of a hundred calls are to be node(). */
    private static void one(Tower x, int[] threw, int[] answered, int nodes) {
        int which = below(100) < nodes ? 5 : below(CALLS_OF.length);
        int[] n = {number(), number(), number(), number()};
        if (which == 5 && below(10) < 9) {
            n = likelyNode(x);
        }
        long before = below(8) == 0 ? x.digest() : 0;
        try {
            call(x, which, n);
            answered[which]++;
        } catch (RuntimeException e) {
            threw[which]++;
            Class<?> thrown = e.getClass();
            int bit = thrown == IndexOutOfBoundsException.class ? 1
                    : thrown == IllegalArgumentException.class ? 2 : thrown == IllegalStateException.class ? 4 : 8;
            if ((CALLS_OF[which][1] & bit) == 0) {
                Check.tell("call " + which + " of " + n[0] + ", " + n[1] + ", " + n[2] + ", " + n[3] + " threw " + e);
            }
            if (before != 0) {
                Check.same("digest() behind an exception of call " + which, x.digest(), before);
            }
        }
    }

    private static long call(Tower x, int which, int[] n) {
        switch (which) {
            case 0: return x.kind(n[0], n[1] > 0);
            case 1: return x.ofKind(n[0], n[1]);
            case 2: return x.procedure(n[0]);
            case 3: return x.tell(n[0], n[1]);
            case 4: return x.ofProcedure(n[0], n[1]);
            case 5: return x.node(n[0], n[1], n[2], n[3]);
            case 6: return x.body(n[0], n[1]);
            case 7: return x.ofNode(n[0], n[1]);
            case 8: return x.fault(n[0], n[1]);
            case 9: return x.prune(n[0] > 0) ? 1 : 0;
            case 10: return x.code(n[0], n[1], n[2]);
            case 11: return x.row(n[0], n[1], n[2]);
            case 12: return x.limits(n[0], n[1]);
            case 13: return x.run();
            case 14: return x.ofRun(n[0]);
            case 15: return x.printed(n[0], n[1]);
            case 16: return x.exception(n[0], n[1]);
            case 17: return x.suppressed(n[0], n[1]);
            case 18: return x.trace(n[0], n[1]);
            case 19: return x.held(n[0]);
            case 20: return (long) x.meanPrinted();
            case 21: return x.many(n[0]);
            case 22: return x.wouldRun(n[0], n[1], n[2]);
            case 23: return x.catcher(n[0], n[1]);
            case 24: return x.faultsWith(n[0], n[1]);
            default: return x.digest();
        }
    }

    private static int below(int bound) {
        state = state * 6364136223846793005L + 1442695040888963407L;
        return (int) ((state >>> 33) % bound);
    }

    private static int number() {
        switch (below(4)) {
            case 0:
                return EDGES[below(EDGES.length)];
            case 1:
                return below(4);
            default:
                return below(16) - 1;
        }
    }

    private static int[] likelyNode(Tower x) {
        int sort = below(19);
        int some = Math.max(1, x.many(2));
        int p = below(some);
        int q = below(some);
        switch (sort) {
            case 4:
                return new int[] {sort, 0, p, q};
            case 5:
                return new int[] {sort, below(3), p, below(2) == 0 ? q : -1};
            case 6:
                return new int[] {sort, below(3), p, 0};
            case 7:
            case 14:
                return new int[] {sort, 0, 0, 0};
            case 11:
                return new int[] {sort, below(2) == 0 ? below(some) : -1, p, below(2) == 0 ? q : -1};
            case 12:
                return new int[] {sort, below(5), p, below(2) == 0 ? q : -1};
            case 13:
                return new int[] {sort, below(2) - 1, p, below(2) - 1};
            case 3:
            case 8:
                return new int[] {sort, 0, below(120) - 10, 0};
            case 16:
            case 17:
            case 18:
                return new int[] {sort, below(4), 0, 0};
            default:
                return new int[] {sort, below(5), below(12), 0};
        }
    }

    // ---- NODES as deep within each other as they can be

    private static void nested() {
        int[] kinds = {5, 6, 11, 13, 4};
        for (int sort : kinds) {
            Check.about("nested, of sort " + sort);
            Tower x = new Tower();
            x.procedure(0);
            x.body(1, x.node(0, 0, 1, 0));
            int inner = x.node(8, 0, 3, 0);
            while (x.many(2) + (sort == 11 || sort == 4 ? 2 : 1) <= 90) {
                inner = around(x, sort, inner);
            }
            x.body(0, inner);
            Check.same("many(4)", x.many(4), sort == 11 || sort == 13 ? 1 : 0);
            Check.same("fault", x.many(4) == 0 ? 8 : x.fault(0, 0), 8);
            Check.same("digest()", x.digest(), Digest.of(x));
        }
        deepest();
    }

    private static int around(Tower x, int sort, int inner) {
        switch (sort) {
            case 5:
                return x.node(5, 1, inner, -1);
            case 6:
                return x.node(6, 0, inner, 0);
            case 11:
                return x.node(11, x.node(8, 0, 1, 0), inner, -1);
            case 13:
                return x.node(13, 1, inner, 1);
            default:
                return x.node(4, 0, x.node(1, 0, 1, 0), inner);
        }
    }

    /** 30 PROCEDURES within each other, each of them within 40 USINGS that only open. */
    private static void deepest() {
        Check.about("deepest");
        Tower x = new Tower();
        x.procedure(0);
        x.body(1, x.node(0, 0, 1, 0));
        int inner = x.node(9, 0, 0, 0);
        for (int k = 0; k < 40; k++) {
            inner = x.node(13, 1, inner, -1);
        }
        x.body(0, inner);
        x.limits(3000, 30);
        Check.same("run()", x.run(), 1);
        Check.same("ofRun(7)", x.ofRun(7), 30);
        Check.same("ofRun(3)", x.ofRun(3), 29 * 81 + 1);
        Check.same("digest()", x.digest(), Digest.of(x));
    }
}
