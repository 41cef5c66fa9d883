import java.util.function.Supplier;

/** The sentences of the document that name an edge, of section 3 and promise 10, as in EdgesOfTellingTest. */
public final class EdgesOfFaultsTest extends Tests {
    private static final Supplier<Tower> NEW = Tower::new;
    private static final Supplier<Tower> RAN = Samples::ran;
    private static final Supplier<Tower> THREE = EdgesOfFaultsTest::three;

    private EdgesOfFaultsTest() {
    }

    public static void main(String[] args) {
        faultRefused();
        noBody();
        partsInOrder();
        atMostOne();
        shadowed();
        shadowedOfTheSameTry();
        idle();
        idleOfB();
        breakWithoutLoop();
        withoutCatch();
        sequence();
        untold();
        untoldClassByClass();
        inNone();
        lastOfNinety();
        mostFaults();
        longest();
        tooLongLast();
        veryLong();
        Check.end();
    }

    /** FAULTS: 5 of NODE 0 of MAIN, then 10 of the PROCEDURE 1, then 3 of the PROCEDURE 2 with CLASS 5. */
    private static Tower three() {
        Tower x = new Tower();
        x.kind(ROOT, true);
        x.procedure(31);
        x.procedure(31 - 1);
        x.body(0, x.node(AGAIN, 0, 0, 0));
        x.body(2, x.node(THROW, 5, 0, 0));
        return x;
    }

    private static void faultRefused() {
        Check.about("promise 10: if there is no such FAULT, or what is not 0 to 3");
        indexes("fault(k, 0)", NEW, 0, 0, (x, k) -> x.fault(k, 0));
        indexes("fault(k, 3)", THREE, 0, 2, (x, k) -> x.fault(k, 3));
        arguments("fault(0, what)", NEW, 0, 3, (x, what) -> x.fault(0, what));
        arguments("fault(2, what)", THREE, 0, 3, (x, what) -> x.fault(2, what));
        outOfBounds("fault(3, 4)", THREE, x -> x.fault(3, 4));
        outOfBounds("fault(-1, -1)", THREE, x -> x.fault(NONE, NONE));
        outOfBounds("fault(0, 0) without FAULTS", RAN, x -> x.fault(0, 0));
        outOfBounds("fault(0, 4) without FAULTS", RAN, x -> x.fault(0, 4));
        Check.about("promise 10: its PROCEDURE, its NODE (NONE), its more (the CLASS of a 3, otherwise NONE)");
        faults(THREE.get(), at(5, 0, 0, NONE), at(10, 1, NONE, NONE), at(3, 2, NONE, 5));
    }

    private static void noBody() {
        Check.about("section 3: first 10 (NODE NONE), if it has no BODY");
        Tower x = new Tower();
        x.kind(ROOT, true);
        faults(x, at(10, 0, NONE, NONE));
        for (int p = 1; p <= 7; p++) {
            x.procedure(32);
        }
        faults(x, at(10, 0, NONE, NONE), at(10, 1, NONE, NONE), at(10, 2, NONE, NONE), at(10, 3, NONE, NONE),
                at(10, 4, NONE, NONE), at(10, 5, NONE, NONE), at(10, 6, NONE, NONE), at(10, 7, NONE, NONE));
        for (int p = 0; p <= 6; p++) {
            x.body(p, print(x, p));
        }
        faults(x, at(10, 7, NONE, NONE));
        x.body(7, print(x, 7));
        faults(x);
        Check.same("run()", x.run(), 0);
    }

    private static void partsInOrder() {
        Check.about("section 3: NODE by NODE, each ahead of its parts, these in the order a, b, c");
        Tower x = new Tower();
        int[] again = new int[10];
        for (int k = 0; k < again.length; k++) {
            again[k] = x.node(AGAIN, 0, 0, 0);
        }
        int choice = x.node(IF, 0, again[9], again[8]);
        int both = x.node(SEQ, 0, again[7], again[6]);
        int second = x.node(CATCH, ZERO, x.node(BREAK, 0, 0, 0), NONE);
        int first = x.node(CATCH, ZERO, x.node(BREAK, 0, 0, 0), second);
        int tried = x.node(TRY, both, choice, first);
        int used = x.node(USING, 0, x.node(LOOP, 0, again[5], 0), 0);
        x.body(0, x.node(IF, 0, tried, used));
        faults(x, at(7, 0, both, NONE), at(5, 0, again[7], NONE), at(5, 0, again[6], NONE), at(5, 0, again[9], NONE),
                at(5, 0, again[8], NONE), at(4, 0, first - 1, NONE), at(1, 0, second, NONE), at(4, 0, second - 1, NONE),
                at(5, 0, again[5], NONE));
        Check.about("section 3: the FAULTS of a PROCEDURE are ahead of those of the next one, 3 behind its NODES");
        Tower y = new Tower();
        y.kind(ROOT, true);
        y.procedure(0);
        int late = y.node(AGAIN, 0, 0, 0);
        y.body(1, y.node(SEQ, 0, y.node(IF, 0, late, NONE), y.node(THROW, 5, 0, 0)));
        int early = y.node(AGAIN, 0, 0, 0);
        y.body(0, y.node(IF, 0, y.node(THROW, 5, 0, 0), early));
        faults(y, at(5, 0, early, NONE), at(3, 0, NONE, 5), at(5, 1, late, NONE), at(3, 1, NONE, 5));
    }

    private static void atMostOne() {
        Check.about("section 3: each NODE at most one, the first of");
        Tower x = new Tower();
        x.kind(ROOT, true);
        int second = x.node(CATCH, 5, print(x, 0), NONE);
        int first = x.node(CATCH, 5, print(x, 0), second);
        x.body(0, x.node(TRY, NONE, print(x, 0), first));
        faults(x, at(2, 0, first, NONE), at(1, 0, second, NONE));
    }

    /** A TRY that CAN throw all, with CATCHES of these CLASSES. */
    private static int catching(Tower x, int... kinds) {
        int next = NONE;
        for (int k = kinds.length - 1; k >= 0; k--) {
            next = x.node(CATCH, kinds[k], print(x, k), next);
        }
        return x.node(TRY, NONE, x.node(THROW, 6, 0, 0), next);
    }

    private static void shadowed() {
        Check.about("fault 1: a CATCH ahead of it, of the same TRY, is of a CLASS at or below which its own is");
        // 5 below ROOT, 6 below 5, 7 below 6, 8 below 5; which of the CATCHES is the faulty one, or none
        int[][] kinds = {{6, 6}, {6, 7}, {6, 5}, {6, 8}, {5, 8}, {ROOT, ZERO}, {ROOT, ROOT}, {ZERO, ROOT}, {6, ZERO, 7},
            {6, ZERO, 5}, {ZERO, RING, ROOT}, {7, 6, 5}};
        int[] due = {1, 1, NONE, NONE, 1, 1, 1, NONE, 2, NONE, NONE, NONE};
        for (int k = 0; k < kinds.length; k++) {
            Tower x = new Tower();
            for (int parent : new int[] {ROOT, 5, 6, 5}) {
                x.kind(parent, false);
            }
            int tried = catching(x, kinds[k]);
            x.body(0, tried);
            int faulty = x.ofNode(tried, 3);
            for (int left = due[k]; left > 0; left--) {
                faulty = x.ofNode(faulty, 3);
            }
            if (due[k] == NONE) {
                faults(x);
            } else {
                faults(x, at(1, 0, faulty, NONE));
            }
        }
    }

    private static void shadowedOfTheSameTry() {
        Check.about("fault 1: of the same TRY alone");
        Tower x = new Tower();
        int inB = x.node(TRY, NONE, print(x, 0), x.node(CATCH, ZERO, print(x, 0), NONE));
        int inCatch = x.node(TRY, NONE, print(x, 0), x.node(CATCH, ZERO, print(x, 0), NONE));
        int inFinally = x.node(TRY, NONE, print(x, 0), x.node(CATCH, ROOT, print(x, 0), NONE));
        int caught = x.node(CATCH, ROOT, inCatch, NONE);
        x.body(0, x.node(TRY, inFinally, inB, caught));
        faults(x);
    }

    /** A TRY of that NODE with a CATCH of that CLASS; the FAULT 2 is due or not. */
    private static void idle(Tower x, int b, int kind, boolean isDue) {
        int caught = x.node(CATCH, kind, print(x, 0), NONE);
        x.body(0, x.node(TRY, NONE, b, caught));
        String call = "a CATCH of " + kind + " around what CAN " + x.ofNode(b, 5);
        Check.same(call, x.many(4), isDue ? 1 : 0);
        if (isDue && x.many(4) == 1) {
            faults(x, at(2, 0, caught, NONE));
        }
    }

    private static void idle() {
        Check.about("fault 2: CATCH of a CHECKED CLASS: of what its TRY's b CAN throw nothing is AT OR BELOW it");
        Tower x = new Tower();
        x.tell(0, 1);
        x.kind(ROOT, false);
        x.kind(5, true);
        x.kind(6, false);
        x.kind(6, false);
        for (int[] one : new int[][] {{6, 6, 0}, {7, 6, 0}, {5, 6, 1}, {ROOT, 6, 1}, {7, 8, 1}, {8, 8, 0}, {6, 7, 1},
            {ZERO, 6, 1}, {ZERO, 5, 0}, {ZERO, ROOT, 0}, {ZERO, RING, 0}, {6, 5, 0}}) {
            idle(x, x.node(THROW, one[0], 0, 0), one[1], one[2] == 1);
        }
        idle(x, print(x, 0), 6, true);
        idle(x, print(x, 0), 5, false);
        idle(x, print(x, 0), ROOT, false);
        idle(x, x.node(DIV, 0, 0, 0), ZERO, false);
    }

    private static void idleOfB() {
        Check.about("fault 2: of what b CAN, not of what is behind it");
        Tower x = new Tower();
        x.kind(ROOT, true);
        x.tell(0, 32);
        int told = x.procedure(32);
        x.body(told, print(x, 0));
        idle(x, x.node(CALL, 0, told, 0), 5, false);
        idle(x, x.node(USING, told, print(x, 0), NONE), 5, false);
        idle(x, x.node(USING, NONE, print(x, 0), told), 5, false);
        x.tell(told, 0);
        faults(x, at(2, 0, x.many(2) - 2, NONE));
        x.tell(told, 32);
        faults(x);
        int inner = x.node(TRY, NONE, x.node(THROW, 5, 0, 0), x.node(CATCH, 5, print(x, 0), NONE));
        idle(x, inner, 5, true);
        // what the FINALLY, or a CATCH ahead, throws is not of b
        int second = x.node(CATCH, 5, print(x, 0), NONE);
        int first = x.node(CATCH, ZERO, x.node(THROW, 5, 0, 0), second);
        x.body(0, x.node(TRY, x.node(IF, 0, x.node(THROW, 5, 0, 0), NONE), print(x, 0), first));
        faults(x, at(2, 0, second, NONE));
        // what a CATCH ahead of it catches counts all the same
        int above = x.node(CATCH, ROOT, print(x, 0), NONE);
        int below = x.node(CATCH, 5, print(x, 0), above);
        x.body(0, x.node(TRY, NONE, x.node(THROW, 5, 0, 0), below));
        faults(x);
    }

    private static void breakWithoutLoop() {
        Check.about("fault 4: BREAK without a LOOP around it");
        Tower x = new Tower();
        int alone = x.node(BREAK, 0, 0, 0);
        x.body(0, alone);
        faults(x, at(4, 0, alone, NONE));
        int looped = x.node(LOOP, 0, x.node(BREAK, 0, 0, 0), 0);
        x.body(0, looped);
        faults(x);
        int last = x.node(BREAK, 0, 0, 0);
        int used = x.node(USING, 0, x.node(BREAK, 0, 0, 0), 0);
        int caught = x.node(CATCH, ROOT, x.node(BREAK, 0, 0, 0), NONE);
        x.body(0, x.node(LOOP, 0, x.node(TRY, last, used, caught), 0));
        faults(x);
        int ahead = x.node(IF, 0, x.node(BREAK, 0, 0, 0), NONE);
        int behind = x.node(BREAK, 0, 0, 0);
        x.body(0, seq(x, ahead, x.node(LOOP, 0, print(x, 0), 0), behind));
        faults(x, at(4, 0, ahead - 1, NONE), at(4, 0, behind, NONE));
        // a LOOP around the CALL is none around the BREAK
        int p = x.procedure(0);
        int called = x.node(BREAK, 0, 0, 0);
        x.body(p, called);
        x.body(0, x.node(LOOP, 0, x.node(CALL, 0, p, 0), 0));
        faults(x, at(4, p, called, NONE));
    }

    private static void withoutCatch() {
        Check.about("fault 5: 14 to 17 without a CATCH around it (the innermost one around, in whose b it is)");
        for (int sort = 0; sort <= 18; sort++) {
            if (sort >= SEQ && sort <= LOOP || sort >= TRY && sort <= USING) {
                continue;
            }
            Tower x = new Tower();
            int node = x.node(sort, 0, 0, 0);
            x.body(0, x.node(LOOP, 0, node, 0));
            if (sort >= AGAIN && sort <= LINK) {
                faults(x, at(5, 0, node, NONE));
            } else {
                faults(x);
            }
        }
        for (int sort = AGAIN; sort <= LINK; sort++) {
            Tower x = new Tower();
            int last = x.node(sort, 0, 0, 0);
            int inB = x.node(sort, 0, 0, 0);
            int inCatch = x.node(sort, 0, 0, 0);
            int inNext = x.node(sort, 0, 0, 0);
            int caught = x.node(CATCH, ZERO, inCatch, x.node(CATCH, ROOT, inNext, NONE));
            int tried = x.node(TRY, last, inB, caught);
            x.body(0, tried);
            faults(x, at(5, 0, last, NONE), at(5, 0, inB, NONE));
            x.body(0, print(x, 0));
            x.body(0, x.node(TRY, NONE, print(x, 0), x.node(CATCH, ROOT, tried, NONE)));
            faults(x);
        }
        // a CATCH around the CALL is none around it
        Tower x = new Tower();
        int p = x.procedure(0);
        int called = x.node(KEEP, 0, 0, 0);
        x.body(p, called);
        x.body(0, x.node(TRY, NONE, print(x, 0), x.node(CATCH, ROOT, x.node(CALL, 0, p, 0), NONE)));
        faults(x, at(5, p, called, NONE));
    }

    private static void sequence() {
        Check.about("fault 7: SEQ: its b NEVER ENDS");
        Tower x = new Tower();
        int first = x.node(SEQ, 0, x.node(RETURN, 0, 0, 0), print(x, 0));
        x.body(0, first);
        faults(x, at(7, 0, first, NONE));
        x.body(0, x.node(SEQ, 0, print(x, 0), x.node(RETURN, 0, 0, 0)));
        faults(x);
        x.body(0, x.node(SEQ, 0, x.node(IF, 0, x.node(RETURN, 0, 0, 0), NONE), print(x, 0)));
        faults(x);
        int choice = x.node(IF, 0, x.node(RETURN, 0, 0, 0), x.node(RETURN, 0, 0, 0));
        int second = x.node(SEQ, 0, choice, print(x, 0));
        x.body(0, second);
        faults(x, at(7, 0, second, NONE));
        int inner = x.node(SEQ, 0, print(x, 0), x.node(RETURN, 0, 0, 0));
        int outer = x.node(SEQ, 0, inner, print(x, 0));
        x.body(0, outer);
        faults(x, at(7, 0, outer, NONE));
        int deeper = x.node(SEQ, 0, x.node(RETURN, 0, 0, 0), print(x, 0));
        int around = x.node(SEQ, 0, deeper, print(x, 0));
        x.body(0, around);
        faults(x, at(7, 0, around, NONE), at(7, 0, deeper, NONE));
    }

    private static void untold() {
        Check.about("fault 3: a CHECKED CLASS that its BODY CAN throw, and that is AT OR BELOW none that it TELLS");
        // 5 below ROOT, 6 CHECKED below 5, 7 below 6, 8 below 7, 9 below 6
        int[][] due = {{7, 0, 1}, {7, 1 << 7, 0}, {7, 1 << 6, 0}, {7, 1 << 5, 0}, {7, 1, 0}, {7, 1 << 8, 1}, {7, 1 << 9, 1},
            {7, 1 << 8 | 1 << 9, 1}, {7, 1 << 8 | 1 << 6, 0}, {7, 1 << ZERO, 1}, {6, 1 << 7, 1}, {6, 1 << 6, 0}, {6, 1 << 5, 0},
            {5, 0, 0}, {ROOT, 0, 0}, {ZERO, 0, 0}, {9, 0, 1}, {8, 1 << 6, 0}, {8, 1 << 7, 0}, {8, 1 << 8, 0}, {8, 1 << 9, 1}};
        for (int[] one : due) {
            Tower x = new Tower();
            for (int parent : new int[] {ROOT, 5, 6, 7, 6}) {
                x.kind(parent, parent == 5);
            }
            x.body(0, x.node(THROW, one[0], 0, 0));
            x.tell(0, one[1]);
            if (one[2] == 1) {
                faults(x, at(3, 0, NONE, one[0]));
            } else {
                faults(x);
            }
            Check.same("faultsWith(0, 0)", x.faultsWith(0, 0), one[0] >= 6 ? 1 : 0);
        }
    }

    private static void untoldClassByClass() {
        Check.about("fault 3: CLASS by CLASS, with that CLASS as its more");
        Tower x = Samples.withKinds(13);
        int all = x.node(THROW, 12, 0, 0);
        for (int kind = 11; kind >= 0; kind--) {
            all = x.node(SEQ, 0, x.node(IF, 0, x.node(THROW, kind, 0, 0), NONE), all);
        }
        x.body(0, all);
        faults(x, at(3, 0, NONE, 6), at(3, 0, NONE, 7), at(3, 0, NONE, 8), at(3, 0, NONE, 9), at(3, 0, NONE, 10),
                at(3, 0, NONE, 11), at(3, 0, NONE, 12));
        x.tell(0, 1 << 9);
        faults(x, at(3, 0, NONE, 6), at(3, 0, NONE, 7), at(3, 0, NONE, 8));
        x.tell(0, 1 << 7 | 1 << 12);
        faults(x, at(3, 0, NONE, 6));
        x.tell(0, 1 << 5);
        faults(x);
    }

    private static void inNone() {
        Check.about("section 3: a NODE that is IN none has no FAULT");
        Tower x = new Tower();
        x.body(0, print(x, 0));
        x.node(BREAK, 0, 0, 0);
        x.node(SEQ, 0, x.node(AGAIN, 0, 0, 0), x.node(KEEP, 0, 0, 0));
        faults(x);
        x.body(0, x.many(2) - 1);
        faults(x, at(7, 0, 4, NONE), at(5, 0, 2, NONE), at(5, 0, 3, NONE));
    }

    private static void lastOfNinety() {
        Check.about("section 3: NODE by NODE, of 90 NODES as well");
        for (int last : new int[] {BREAK, AGAIN}) {
            Tower x = new Tower();
            int node = x.node(last, 0, 0, 0);
            int all = node;
            for (int k = 0; k < 44; k++) {
                all = x.node(SEQ, 0, print(x, k), all);
            }
            all = x.node(LOOP, 0, all, 0);
            Check.same("NODES", x.many(2), 90);
            x.body(0, all);
            if (last == BREAK) {
                faults(x);
            } else {
                faults(x, at(5, 0, node, NONE));
            }
        }
    }

    /** Each NODE but the CALLS has a FAULT, and each PROCEDURE but one does not TELL 8 CLASSES. */
    private static void mostFaults() {
        Check.about("section 3: as many FAULTS as there can be, each is told");
        Tower x = new Tower();
        for (int kind = 5; kind <= 12; kind++) {
            x.kind(ROOT, true);
        }
        x.procedure(8191);
        for (int p = 2; p <= 7; p++) {
            x.procedure(0);
        }
        x.body(1, x.node(AGAIN, 0, 0, 0));
        int[] again = new int[8];
        for (int p = 2; p <= 7; p++) {
            again[p] = x.node(AGAIN, 0, 0, 0);
            x.body(p, x.node(SEQ, 0, again[p], x.node(CALL, 0, 1, 0)));
        }
        int all = x.node(CALL, 0, 1, 0);
        while (x.many(2) <= 88) {
            all = x.node(SEQ, 0, x.node(AGAIN, 0, 0, 0), all);
        }
        x.body(0, all);
        Check.same("NODES", x.many(2), 90);
        int seqs = (90 - 1 - 18 - 1) / 2;
        int count = 2 * seqs + 8 + 1 + 6 * 10;
        Check.same("many(4)", x.many(4), count);
        for (int k = 0; k < 2 * seqs; k++) {
            Check.same("fault(" + k + ", 0)", x.fault(k, 0), k % 2 == 0 ? 7 : 5);
            Check.same("fault(" + k + ", 2)", x.fault(k, 2), 89 - k / 2 * 2 - k % 2);
        }
        int k = 2 * seqs;
        for (int p = 0; p <= 7; p++) {
            if (p == 1) {
                Check.same("fault(" + k + ", 2)", x.fault(k, 2), 0);
                k++;
                continue;
            }
            if (p > 1) {
                Check.same("fault(" + k + ", 0)", x.fault(k, 0), 7);
                Check.same("fault(" + (k + 1) + ", 2)", x.fault(k + 1, 2), again[p]);
                k += 2;
            }
            for (int kind = 5; kind <= 12; kind++) {
                Check.same("fault(" + k + ", 0)", x.fault(k, 0), 3);
                Check.same("fault(" + k + ", 1)", x.fault(k, 1), p);
                Check.same("fault(" + k + ", 3)", x.fault(k, 3), kind);
                k++;
            }
        }
        Check.same("all of them", k, count);
        Check.outOfBounds("fault(" + count + ", 0)", () -> x.fault(count, 0));
    }

    // ---- fault 8

    /** Its CODE is 292 long, and one more for each that is PRINTED. */
    private static int about300(Tower x, int prints) {
        int[] parts = new int[5 + prints];
        for (int k = 0; k < parts.length; k++) {
            parts[k] = k < 5 ? doubled(x, 5 - k) : print(x, k);
        }
        return seq(x, parts);
    }

    private static void longest() {
        Check.about("fault 8: its CODE would be longer than 300");
        for (int length = 298; length <= 303; length++) {
            Tower x = new Tower();
            x.body(0, about300(x, length - 292));
            if (length <= 300) {
                faults(x);
                Check.same("ofProcedure(0, 3)", x.ofProcedure(0, 3), length);
                Check.same("many(5)", x.many(5), length);
                Check.same("code(0, " + (length - 1) + ", 0)", x.code(0, length - 1, 0), 8);
                Check.same("run()", x.run(), 0);
                int last = length;
                Check.outOfBounds("code(0, " + length + ", 0)", () -> x.code(0, last, 0));
            } else {
                faults(x, at(8, 0, NONE, NONE));
                Check.same("ofProcedure(0, 3)", x.ofProcedure(0, 3), 0);
                Check.same("ofProcedure(0, 4)", x.ofProcedure(0, 4), 0);
                Check.same("many(5)", x.many(5), 0);
                Check.same("many(6)", x.many(6), 0);
            }
        }
        Supplier<Tower> tooLong = () -> {
            Tower x = new Tower();
            x.body(0, about300(x, 9));
            return x;
        };
        Check.about("fault 8: what is refused with it");
        illegalState("run()", tooLong, Tower::run);
        illegalState("wouldRun(1, 1, 0)", tooLong, x -> x.wouldRun(1, 1, 0));
        outOfBounds("code(0, 0, 0)", tooLong, x -> x.code(0, 0, 0));
        outOfBounds("code(0, 300, 0)", tooLong, x -> x.code(0, 300, 0));
        outOfBounds("row(0, 0, 0)", tooLong, x -> x.row(0, 0, 0));
        outOfBounds("fault(1, 0)", tooLong, x -> x.fault(1, 0));
    }

    private static void tooLongLast() {
        Check.about("fault 8: at last, if there are no FAULTS so far, PROCEDURE by PROCEDURE, each that is so");
        Tower x = new Tower();
        x.procedure(0);
        x.procedure(0);
        x.body(0, doubled(x, 6));
        x.body(2, doubled(x, 6));
        faults(x, at(10, 1, NONE, NONE));
        int again = x.node(AGAIN, 0, 0, 0);
        x.body(1, again);
        faults(x, at(5, 1, again, NONE));
        x.body(1, print(x, 0));
        faults(x, at(8, 0, NONE, NONE), at(8, 2, NONE, NONE));
        Check.same("faultsWith(1, 0)", x.faultsWith(1, 0), 2);
        x.body(0, print(x, 0));
        faults(x, at(8, 2, NONE, NONE));
        x.body(2, print(x, 0));
        faults(x);
        Check.same("run()", x.run(), 0);
    }

    private static void veryLong() {
        Check.about("fault 8: it may be very long: one stops there");
        Tower x = new Tower();
        x.body(0, doubled(x, 44));
        faults(x, at(8, 0, NONE, NONE));
        Check.same("NODES", x.many(2), 89);
        Tower y = new Tower();
        int inner = y.node(RETURN, 0, 1, 0);
        for (int k = 0; k < 44; k++) {
            inner = y.node(TRY, y.node(IF, 0, y.node(RETURN, 0, k, 0), NONE), inner, NONE);
            if (y.many(2) > 87) {
                break;
            }
        }
        y.body(0, inner);
        faults(y, at(8, 0, NONE, NONE));
        Tower z = new Tower();
        z.procedure(0);
        z.body(1, print(z, 0));
        int used = z.node(RETURN, 0, 1, 0);
        while (z.many(2) < 90) {
            used = z.node(USING, NONE, used, 1);
        }
        z.body(0, used);
        faults(z, at(8, 0, NONE, NONE));
    }
}
