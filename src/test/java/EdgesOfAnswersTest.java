import java.util.function.Supplier;

/** The sentences of the document that name an edge, of promises 14 to 27, as in EdgesOfTellingTest. */
public final class EdgesOfAnswersTest extends Tests {
    private static final Supplier<Tower> NEW = Tower::new;
    private static final Supplier<Tower> RAN = Samples::ran;
    private static final Supplier<Tower> FAULTY = Samples::faulty;

    private EdgesOfAnswersTest() {
    }

    public static void main(String[] args) {
        limits();
        limitsBefore();
        run();
        ofRun();
        ofRunAheadOfAllRuns();
        ofRunWithout();
        ofRunCalls();
        printed();
        printedFirst40();
        exception();
        exceptionFirst40();
        suppressed();
        suppressedMany();
        suppressedInOrder();
        suppressedBehind40();
        trace();
        traceOfEachKept();
        held();
        heldAheadOfAllRuns();
        meanPrinted();
        meanOfLargeNumbers();
        meanOfMore();
        many();
        manyWithFaults();
        manyOfAll();
        wouldRun();
        wouldRunChangesNothing();
        catcher();
        catcherOfKinds();
        catcherOfPlaces();
        faultsWith();
        faultsWithAll();
        digest();
        digestOfKept();
        Check.end();
    }

    private static int caught(Tower x, int b, int kind, int inCatch) {
        return x.node(TRY, NONE, b, x.node(CATCH, kind, inCatch, NONE));
    }

    /** So many turns of a STATEMENT, with VARIABLE 9 going down to 0. */
    private static int turns(Tower x, int times, int b) {
        return seq(x, x.node(SET, 9, times, 0), x.node(LOOP, 9, x.node(SEQ, 0, x.node(ADD, 9, -1, 0), b), 0));
    }

    /** The PRINT is the NODE 1. */
    private static Tower printing(int times) {
        Tower x = new Tower();
        x.node(SET, 1, 1, 0);
        x.body(0, turns(x, times, print(x, 109)));
        x.run();
        return x;
    }

    /** The THROW is the NODE 1. */
    private static Tower throwing(int times) {
        Tower x = new Tower();
        x.node(SET, 1, 1, 0);
        x.body(0, turns(x, times, caught(x, x.node(THROW, ROOT, 109, 0), ROOT, x.node(SET, 1, 1, 0))));
        x.run();
        return x;
    }

    // ---- promises 14 to 16

    private static void limits() {
        Check.about("promise 14: if most is not 1 to 3000, or deep is not 1 to 30");
        for (int most : new int[] {1, 2, 2999, 3000}) {
            for (int deep : new int[] {1, 2, 29, 30}) {
                Tower x = new Tower();
                Check.same("limits(" + most + ", " + deep + ")", x.limits(most, deep), 800);
                Check.same("many(7)", x.many(7), most);
                Check.same("many(8)", x.many(8), deep);
            }
            for (int deep : new int[] {0, 31, -1, 32, MIN, MAX}) {
                illegalArgument("limits(" + most + ", " + deep + ")", RAN, x -> x.limits(most, deep));
                illegalArgument("limits(" + most + ", " + deep + ")", NEW, x -> x.limits(most, deep));
            }
        }
        for (int most : new int[] {0, 3001, -1, 3002, MIN, MAX}) {
            for (int deep : new int[] {1, 30, 0, 31}) {
                illegalArgument("limits(" + most + ", " + deep + ")", RAN, x -> x.limits(most, deep));
                illegalArgument("limits(" + most + ", " + deep + ")", FAULTY, x -> x.limits(most, deep));
            }
        }
    }

    private static void limitsBefore() {
        Check.about("promise 14: returns MOST before; a refused one changes neither");
        Tower x = new Tower();
        Check.same("limits(1, 30)", x.limits(1, 30), 800);
        Check.illegalArgument("limits(2, 31)", () -> x.limits(2, 31));
        Check.illegalArgument("limits(3001, 2)", () -> x.limits(3001, 2));
        Check.same("many(7)", x.many(7), 1);
        Check.same("many(8)", x.many(8), 30);
        Check.same("limits(3000, 1)", x.limits(3000, 1), 1);
        Check.same("limits(7, 7)", x.limits(7, 7), 3000);
        Check.same("limits(7, 8)", x.limits(7, 8), 7);
        Check.same("many(8)", x.many(8), 8);
    }

    private static void run() {
        Check.about("promise 15: if there are FAULTS");
        illegalState("run() of a new object", NEW, Tower::run);
        illegalState("run() behind a run", FAULTY, Tower::run);
        Check.about("promise 15: 0 if MAIN came to its end, 1 if an EXCEPTION ended it, 2 if it was cut off");
        Tower x = FAULTY.get();
        Check.illegalState("run()", x::run);
        Check.same("ofRun(9)", x.ofRun(9), 1);
        x.body(4, print(x, 1));
        Check.same("run() as there are no FAULTS", x.run(), 1);
        Check.same("ofRun(9)", x.ofRun(9), 2);
        x.limits(12, 10);
        Check.same("run() one below its STEPS", x.run(), 2);
        x.limits(13, 10);
        Check.same("run() at its STEPS", x.run(), 1);
        x.body(0, print(x, 1));
        x.limits(1, 1);
        Check.same("run() of one STEP", x.run(), 0);
        x.body(0, x.node(THROW, ROOT, 1, 0));
        Check.same("run() that throws", x.run(), 1);
        x.body(0, x.node(SEQ, 0, print(x, 1), print(x, 2)));
        Check.same("run() of three", x.run(), 2);
        Check.same("ofRun(9)", x.ofRun(9), 7);
    }

    private static void ofRun() {
        Check.about("promise 16: if what is not 0 to 9");
        arguments("ofRun(what)", NEW, 0, 9, Tower::ofRun);
        arguments("ofRun(what)", RAN, 0, 9, Tower::ofRun);
        arguments("ofRun(what)", FAULTY, 0, 9, Tower::ofRun);
    }

    private static void ofRunAheadOfAllRuns() {
        Check.about("promise 16: 0 ahead of all runs");
        ofRun(new Tower(), 0, 0, 0, 0, 0, 0, 0, 0, 0, 0);
        Tower x = new Tower();
        x.body(0, x.node(THROW, ROOT, 1, 0));
        x.wouldRun(10, 10, 0);
        x.digest();
        x.limits(9, 9);
        ofRun(x, 0, 0, 0, 0, 0, 0, 0, 0, 0, 0);
        x.run();
        ofRun(x, 1, 0, 0, 1, 0, 1, 1, 1, 0, 1);
    }

    private static void ofRunWithout() {
        Check.about("promise 16: what MAIN gave (0 without that), the EXCEPTION that ended it (NONE)");
        Tower x = new Tower();
        x.body(0, x.node(RETURN, 0, -5, 0));
        x.run();
        ofRun(x, 0, -5, NONE, 1, 0, 1, 0, 1, 0, 1);
        x.body(0, x.node(TRY, x.node(THROW, ROOT, 1, 0), x.node(RETURN, 0, 7, 0), NONE));
        x.run();
        ofRun(x, 1, 0, 0, 3, 0, 1, 1, 1, 0, 2);
        x.limits(2, 1);
        x.run();
        ofRun(x, 2, 0, NONE, 2, 0, 1, 0, 1, 0, 3);
        // cut off as an EXCEPTION was under way: it did not end the run
        x.body(0, x.node(TRY, print(x, 1), x.node(THROW, ROOT, 1, 0), NONE));
        x.run();
        ofRun(x, 2, 0, NONE, 2, 0, 1, 1, 1, 0, 4);
        x.limits(3, 1);
        x.run();
        ofRun(x, 1, 0, 0, 3, 1, 1, 1, 1, 0, 5);
        x.body(0, print(x, 1));
        x.run();
        ofRun(x, 0, 0, NONE, 1, 1, 1, 0, 1, 0, 6);
    }

    private static void ofRunCalls() {
        Check.about("promise 16: CALLS (MAIN, and what OPENS and CLOSES, too; not those in place of which there was ..)");
        Tower x = new Tower();
        int p = x.procedure(0);
        x.body(p, x.node(SET, 0, 1, 0));
        int q = x.procedure(0);
        x.body(q, x.node(CALL, 0, p, 0));
        x.body(0, x.node(USING, q, x.node(CALL, 0, p, 0), p));
        x.run();
        ofRun(x, 0, 0, NONE, 6, 0, 5, 0, 3, 0, 1);
        x.limits(99, 2);
        x.run();
        ofRun(x, 1, 0, 0, 2, 0, 2, 1, 2, 0, 2);
        x.limits(99, 1);
        x.run();
        ofRun(x, 1, 0, 0, 1, 0, 1, 1, 1, 0, 3);
        x.limits(99, 3);
        x.run();
        ofRun(x, 0, 0, NONE, 6, 0, 5, 0, 3, 0, 4);
    }

    // ---- promises 17 to 20

    private static void printed() {
        Check.about("promise 17: if there is no such one, or it is not kept");
        indexes("printed(k, 0)", RAN, 0, 1, (x, k) -> x.printed(k, 0));
        indexes("printed(k, 2)", FAULTY, 0, 1, (x, k) -> x.printed(k, 2));
        outOfBounds("printed(0, 0) ahead of all runs", NEW, x -> x.printed(0, 0));
        Check.about("promise 17: if what is not 0 to 2");
        arguments("printed(0, what)", RAN, 0, 2, (x, what) -> x.printed(0, what));
        arguments("printed(1, what)", FAULTY, 0, 2, (x, what) -> x.printed(1, what));
        Check.about("promise 17: both, the first one is thrown");
        outOfBounds("printed(2, 3)", RAN, x -> x.printed(2, 3));
        outOfBounds("printed(-1, -1)", RAN, x -> x.printed(NONE, NONE));
        outOfBounds("printed(0, 3) ahead of all runs", NEW, x -> x.printed(0, 3));
        Tower x = printing(3);
        x.limits(1, 1);
        x.run();
        Check.outOfBounds("printed(0, 0) of a later run without any", () -> x.printed(0, 0));
    }

    private static void printedFirst40() {
        Check.about("promise 17: a number, from 0 (the first 40 are kept)");
        for (int times = 38; times <= 42; times++) {
            Tower x = printing(times);
            int kept = Math.min(40, times);
            Check.same("ofRun(4)", x.ofRun(4), times);
            for (int k = 0; k < kept; k++) {
                Check.same("printed(" + k + ", 0)", x.printed(k, 0), times - 1 - k);
                Check.same("printed(" + k + ", 1)", x.printed(k, 1), 6 + 3 * k);
                Check.same("printed(" + k + ", 2)", x.printed(k, 2), 1);
            }
            int all = times;
            Supplier<Tower> made = () -> printing(all);
            outOfBounds("printed(" + kept + ", 0) of " + times, made, y -> y.printed(kept, 0));
            outOfBounds("printed(" + kept + ", 3) of " + times, made, y -> y.printed(kept, 3));
            illegalArgument("printed(" + (kept - 1) + ", 3) of " + times, made, y -> y.printed(kept - 1, 3));
        }
    }

    private static void exception() {
        Check.about("promise 18: if there is no such one, or it is not kept");
        indexes("exception(e, 0)", RAN, 0, 2, (x, e) -> x.exception(e, 0));
        indexes("exception(e, 4)", FAULTY, 0, 2, (x, e) -> x.exception(e, 4));
        outOfBounds("exception(0, 0) ahead of all runs", NEW, x -> x.exception(0, 0));
        Check.about("promise 18: if what is not 0 to 4");
        arguments("exception(0, what)", RAN, 0, 4, (x, what) -> x.exception(0, what));
        arguments("exception(2, what)", FAULTY, 0, 4, (x, what) -> x.exception(2, what));
        Check.about("promise 18: both, the first one is thrown");
        outOfBounds("exception(3, 5)", RAN, x -> x.exception(3, 5));
        outOfBounds("exception(-1, -1)", RAN, x -> x.exception(NONE, NONE));
        outOfBounds("exception(0, 5) ahead of all runs", NEW, x -> x.exception(0, 5));
        Tower x = throwing(3);
        x.limits(1, 1);
        x.run();
        Check.outOfBounds("exception(0, 0) of a later run without any", () -> x.exception(0, 0));
    }

    private static void exceptionFirst40() {
        Check.about("promise 18: an EXCEPTION of the latest run (the first 40 are kept)");
        for (int times = 38; times <= 42; times++) {
            Tower x = throwing(times);
            int kept = Math.min(40, times);
            Check.same("ofRun(6)", x.ofRun(6), times);
            for (int e = 0; e < kept; e++) {
                exception(x, e, ROOT, times - 1 - e, NONE, 0, 1);
            }
            int all = times;
            Supplier<Tower> made = () -> throwing(all);
            outOfBounds("exception(" + kept + ", 0) of " + times, made, y -> y.exception(kept, 0));
            outOfBounds("exception(" + kept + ", 5) of " + times, made, y -> y.exception(kept, 5));
            outOfBounds("suppressed(" + kept + ", 0) of " + times, made, y -> y.suppressed(kept, 0));
            outOfBounds("trace(" + kept + ", 0) of " + times, made, y -> y.trace(kept, 0));
            outOfBounds("trace(" + (kept - 1) + ", 1) of " + times, made, y -> y.trace(kept - 1, 1));
            Check.same("trace(" + (kept - 1) + ", 0)", x.trace(kept - 1, 0), 1);
        }
    }

    /** So many are SUPPRESSED beneath the EXCEPTION 0. */
    private static Tower beneath(int times) {
        Tower x = new Tower();
        int closes = x.procedure(1 << RING);
        x.body(closes, x.node(THROW, RING, 5, 0));
        int inner = x.node(THROW, ZERO, 1, 0);
        for (int k = 0; k < times; k++) {
            inner = x.node(USING, NONE, inner, closes);
        }
        x.body(0, inner);
        x.run();
        return x;
    }

    private static void suppressed() {
        Check.about("promise 19: if there is no such EXCEPTION, or number");
        for (int times = 0; times <= 3; times++) {
            Tower x = beneath(times);
            Check.same("exception(0, 3)", x.exception(0, 3), times);
            Check.same("ofRun(8)", x.ofRun(8), times);
            for (int k = 0; k < times; k++) {
                Check.same("suppressed(0, " + k + ")", x.suppressed(0, k), k + 1);
                Check.same("exception(" + (k + 1) + ", 3)", x.exception(k + 1, 3), 0);
            }
            int all = times;
            Supplier<Tower> made = () -> beneath(all);
            for (int k : new int[] {-1, times, times + 1, MIN, MAX}) {
                outOfBounds("suppressed(0, " + k + ") of " + times, made, y -> y.suppressed(0, k));
            }
            for (int e : new int[] {-1, times + 1, times + 2, MIN, MAX}) {
                outOfBounds("suppressed(" + e + ", 0) of " + times, made, y -> y.suppressed(e, 0));
            }
            outOfBounds("suppressed(last, 0) of " + times, made, y -> y.suppressed(all, 0));
        }
        indexes("suppressed(e, 0)", () -> beneath(1), 0, 0, (x, e) -> x.suppressed(e, 0));
        outOfBounds("suppressed(0, 0) ahead of all runs", NEW, x -> x.suppressed(0, 0));
        outOfBounds("suppressed(1, 0), that was SUPPRESSED", RAN, x -> x.suppressed(1, 0));
        Check.about("promise 19: of the latest run");
        Tower x = beneath(3);
        x.body(0, x.node(THROW, EMPTY, 1, 0));
        x.run();
        exception(x, 0, EMPTY, 1, NONE, 0, 1);
        Check.outOfBounds("suppressed(0, 0) of a later run", () -> x.suppressed(0, 0));
    }

    private static void suppressedMany() {
        Check.about("promise 19: the one that was SUPPRESSED beneath it as this one, of more than are kept");
        for (int times = 38; times <= 45; times++) {
            Tower x = beneath(times);
            exception(x, 0, ZERO, 1, NONE, times, 1);
            Check.same("ofRun(8)", x.ofRun(8), times);
            for (int k = 0; k < times; k++) {
                Check.same("suppressed(0, " + k + ") of " + times, x.suppressed(0, k), k + 1);
            }
            int all = times;
            Check.outOfBounds("suppressed(0, " + all + ")", () -> x.suppressed(0, all));
        }
    }

    private static void suppressedInOrder() {
        Check.about("promise 19: the one that was SUPPRESSED beneath it as this one, whatever its number");
        Tower x = new Tower();
        int closes = x.procedure(1 << RING);
        // each closing makes one that it catches, and throws the next one
        x.body(closes, x.node(SEQ, 0, caught(x, x.node(THROW, EMPTY, 6, 0), ROOT, print(x, 1)), x.node(THROW, RING, 5, 0)));
        int inner = x.node(THROW, ZERO, 1, 0);
        for (int k = 0; k < 5; k++) {
            inner = x.node(USING, NONE, inner, closes);
        }
        x.body(0, inner);
        x.run();
        exception(x, 0, ZERO, 1, NONE, 5, 1);
        for (int k = 0; k < 5; k++) {
            Check.same("suppressed(0, " + k + ")", x.suppressed(0, k), 2 * k + 2);
            exception(x, 2 * k + 1, EMPTY, 6, NONE, 0, 2);
            exception(x, 2 * k + 2, RING, 5, NONE, 0, 2);
        }
        Check.same("digest()", x.digest(), Digest.of(x));
        Check.about("promise 19: one that is SUPPRESSED more than once, beneath one and beneath others");
        Tower y = new Tower();
        int again = y.procedure(0);
        y.body(again, y.node(THROWN, 0, 0, 0));
        int first = caught(y, y.node(THROW, RING, 1, 0), ROOT, y.node(KEEP, 0, 0, 0));
        int two = y.node(USING, NONE, y.node(USING, NONE, y.node(THROW, ZERO, 2, 0), again), again);
        int three = y.node(USING, NONE, y.node(USING, NONE, y.node(THROW, EMPTY, 3, 0), again), again);
        int more = y.node(USING, NONE, three, again);
        y.body(0, seq(y, first, caught(y, two, ROOT, print(y, 1)), caught(y, more, ROOT, print(y, 2))));
        Check.same("run()", y.run(), 0);
        Check.same("ofRun(8)", y.ofRun(8), 5);
        exception(y, 0, RING, 1, NONE, 0, 1);
        exception(y, 1, ZERO, 2, NONE, 2, 1);
        exception(y, 2, EMPTY, 3, NONE, 3, 1);
        for (int k = 0; k < 5; k++) {
            int beneath = k < 2 ? 1 : 2;
            int number = k < 2 ? k : k - 2;
            Check.same("suppressed(" + beneath + ", " + number + ")", y.suppressed(beneath, number), 0);
        }
        Check.outOfBounds("suppressed(1, 2)", () -> y.suppressed(1, 2));
        Check.outOfBounds("suppressed(2, 3)", () -> y.suppressed(2, 3));
        Check.same("digest()", y.digest(), Digest.of(y));
        Check.about("promise 19: behind one that is SUPPRESSED beneath two, each has its own next one");
        Tower z = new Tower();
        int same = z.procedure(0);
        z.body(same, z.node(THROWN, 0, 0, 0));
        int next = throwing(z, OVERFLOW, 9);
        int[] parts = new int[4];
        parts[0] = caught(z, z.node(THROW, RING, 1, 0), ROOT, z.node(KEEP, 0, 0, 0));
        for (int k = 1; k <= 3; k++) {
            int used = z.node(USING, NONE, z.node(USING, NONE, z.node(THROW, ZERO, k, 0), same), next);
            parts[k] = caught(z, z.node(USING, NONE, used, same), ROOT, print(z, k));
        }
        z.body(0, seq(z, parts));
        Check.same("run()", z.run(), 0);
        for (int e = 1; e <= 5; e += 2) {
            exception(z, e, ZERO, (e + 1) / 2, NONE, 3, 1);
            int[] due = {0, e + 1, 0};
            for (int k = 0; k < 3; k++) {
                Check.same("suppressed(" + e + ", " + k + ")", z.suppressed(e, k), due[k]);
            }
        }
    }

    private static void suppressedBehind40() {
        Check.about("promises 18 and 19: one that is not kept can be the CAUSE, or SUPPRESSED beneath, one that is");
        // 38, 39 or 40 EXCEPTIONS, one in a SLOT, one more that is SUPPRESSED beneath it, and one that is its CAUSE
        for (int before = 37; before <= 41; before++) {
            Tower x = new Tower();
            int closes = x.procedure(1 << RING);
            x.body(closes, x.node(THROW, RING, 5, 0));
            int first = caught(x, x.node(THROW, ZERO, 1, 0), ROOT, x.node(KEEP, 0, 0, 0));
            int others = turns(x, before, caught(x, x.node(THROW, ROOT, 1, 0), ROOT, x.node(KEEP, 1, 0, 0)));
            int used = x.node(USING, NONE, x.node(THROWN, 0, 0, 0), closes);
            int last = caught(x, used, ROOT, x.node(LINK, 1, 0, 0));
            int late = caught(x, x.node(USING, NONE, x.node(THROW, EMPTY, 2, 0), closes), ROOT, x.node(LINK, 0, 0, 0));
            x.body(0, seq(x, first, others, last, late));
            Check.same("run()", x.run(), 0);
            Check.same("ofRun(6)", x.ofRun(6), before + 4);
            Check.same("ofRun(8)", x.ofRun(8), 2);
            exception(x, 0, ZERO, 1, before, 1, 1);
            Check.same("suppressed(0, 0)", x.suppressed(0, 0), before + 1);
            Check.same("ofKind(2, 4)", x.ofKind(RING, 4), 2);
            Check.same("ofKind(4, 4)", x.ofKind(EMPTY, 4), 1);
            int number = before + 2;
            if (number < 40) {
                exception(x, number, EMPTY, 2, 0, 1, 1);
                Check.same("suppressed(" + number + ", 0)", x.suppressed(number, 0), number + 1);
            } else {
                Check.outOfBounds("exception(" + number + ", 2)", () -> x.exception(number, 2));
                Check.outOfBounds("suppressed(" + number + ", 0)", () -> x.suppressed(number, 0));
                Check.outOfBounds("trace(" + number + ", 0)", () -> x.trace(number, 0));
            }
        }
    }

    private static Tower traced(int procedures) {
        Tower x = new Tower();
        for (int p = 1; p <= procedures; p++) {
            x.procedure(0);
        }
        for (int p = 0; p <= procedures; p++) {
            x.body(p, p == procedures ? x.node(THROW, ROOT, 1, 0) : x.node(CALL, 0, p + 1, 0));
        }
        x.run();
        return x;
    }

    private static void trace() {
        Check.about("promise 20: if there is no such EXCEPTION, or place");
        for (int procedures = 0; procedures <= 6; procedures++) {
            int all = procedures;
            int length = Math.min(6, procedures + 1);
            Supplier<Tower> made = () -> traced(all);
            indexes("trace(0, k) of " + length, made, 0, length - 1, (x, k) -> x.trace(0, k));
            indexes("trace(e, 0)", made, 0, 0, (x, e) -> x.trace(e, 0));
            Tower x = traced(procedures);
            Check.same("exception(0, 4)", x.exception(0, 4), length);
            for (int k = 0; k < length; k++) {
                Check.same("trace(0, " + k + ")", x.trace(0, k), procedures - k);
            }
        }
        outOfBounds("trace(0, 0) ahead of all runs", NEW, x -> x.trace(0, 0));
        outOfBounds("trace(3, -1)", RAN, x -> x.trace(3, NONE));
        outOfBounds("trace(-1, 6)", FAULTY, x -> x.trace(NONE, 6));
    }

    private static void traceOfEachKept() {
        Check.about("promise 20: the NODE there, of each EXCEPTION that is kept");
        Tower x = new Tower();
        int thrower = x.procedure(0);
        int thrown = x.node(THROW, ROOT, 1, 0);
        x.body(thrower, thrown);
        int call = x.node(CALL, 0, thrower, 0);
        x.body(0, turns(x, 41, caught(x, call, ROOT, x.node(WRAP, RING, 2, 0))));
        for (int times = 1; times <= 2; times++) {
            x.run();
            exception(x, 0, ROOT, 1, NONE, 0, 2);
            trace(x, 0, thrown, call);
            exception(x, 1, RING, 2, 0, 0, 1);
        }
        x.body(0, turns(x, 41, caught(x, x.node(CALL, 0, thrower, 0), ROOT, print(x, 1))));
        x.run();
        Check.same("ofRun(6)", x.ofRun(6), 41);
        int caller = x.printed(0, 2) - 1;
        for (int e = 0; e < 40; e++) {
            trace(x, e, thrown, caller);
        }
        Check.outOfBounds("trace(40, 0)", () -> x.trace(40, 0));
    }

    // ---- promises 21 to 23

    private static void held() {
        Check.about("promise 21: if which is not 0 to 13");
        indexes("held(which)", NEW, 0, 13, Tower::held);
        indexes("held(which)", RAN, 0, 13, Tower::held);
        indexes("held(which)", FAULTY, 0, 13, Tower::held);
    }

    private static void heldAheadOfAllRuns() {
        Check.about("promise 21: a number (0 ahead of all runs), or an EXCEPTION (NONE if it held none, and ahead of ..)");
        Tower x = new Tower();
        int all = x.node(SET, 0, 20, 0);
        for (int v = 1; v < 10; v++) {
            all = x.node(SEQ, 0, all, x.node(SET, v, 20 + v, 0));
        }
        for (int slot = 3; slot >= 0; slot--) {
            all = x.node(SEQ, 0, all, caught(x, x.node(THROW, ROOT, 0, 0), ROOT, x.node(KEEP, slot, 0, 0)));
        }
        x.body(0, all);
        x.wouldRun(100, 1, 0);
        x.digest();
        for (int which = 0; which <= 13; which++) {
            Check.same("ahead of all runs, held(" + which + ")", x.held(which), which < 10 ? 0 : NONE);
        }
        x.run();
        for (int which = 0; which <= 13; which++) {
            Check.same("held(" + which + ")", x.held(which), which < 10 ? 20 + which : 13 - which);
        }
        x.body(0, print(x, 0));
        Check.same("of the latest run, held(9)", x.held(9), 29);
        x.run();
        for (int which = 0; which <= 13; which++) {
            Check.same("of a later run, held(" + which + ")", x.held(which), which < 10 ? 0 : NONE);
        }
    }

    private static double meanOf(int... numbers) {
        Tower x = new Tower();
        int all = x.node(SET, 0, 1, 0);
        for (int number : numbers) {
            all = x.node(SEQ, 0, all, print(x, number));
        }
        x.body(0, all);
        x.run();
        return x.meanPrinted();
    }

    private static void meanPrinted() {
        Check.about("promise 22: not cut; 0 without any");
        Check.same("ahead of all runs", new Tower().meanPrinted(), 0.0);
        Check.same("without any", meanOf(), 0.0);
        Check.same("of 0", meanOf(0), 0.0);
        Check.same("of 7", meanOf(7), 7.0);
        Check.same("of -7", meanOf(-7), -7.0);
        Check.same("of 0 and 1", meanOf(0, 1), 0.5);
        Check.same("of 0 and -1", meanOf(0, -1), -0.5);
        Check.same("of 1, 1 and 2", meanOf(1, 1, 2), 4.0 / 3);
        Check.same("of -1, -1 and 0", meanOf(-1, -1, 0), -2.0 / 3);
        Check.same("of 1, 2 and 3", meanOf(1, 2, 3), 2.0);
        Tower x = printing(3);
        Check.same("of the latest run", x.meanPrinted(), 1.0);
        x.wouldRun(5, 1, 0);
        Check.same("behind wouldRun()", x.meanPrinted(), 1.0);
        x.limits(1, 1);
        x.run();
        Check.same("of a later run without any", x.meanPrinted(), 0.0);
    }

    private static void meanOfLargeNumbers() {
        Check.about("promise 22: their sum does not go round");
        Tower x = new Tower();
        int doubling = seq(x, x.node(ADD, 1, -1, 0), x.node(ADD, 0, 100, 0));
        int all = seq(x, x.node(SET, 0, 1, 0), x.node(SET, 1, 30, 0), x.node(LOOP, 1, doubling, 0), x.node(SET, 2, 100, 0),
                x.node(ADD, 2, -1, 0), x.node(ADD, 0, 102, 0), print(x, 100));
        x.body(0, all);
        x.run();
        Check.same("at the largest number", x.meanPrinted(), (double) MAX);
        x.body(0, print(x, 0));
        all = x.node(SEQ, 0, all, print(x, 1));
        x.body(0, all);
        x.run();
        Check.same("above it", x.meanPrinted(), 1073741824.0);
        x.body(0, print(x, 0));
        all = seq(x, all, x.node(ADD, 0, 1, 0), print(x, 100));
        x.body(0, all);
        x.run();
        Check.same("with the smallest number", x.meanPrinted(), 0.0);
        x.body(0, print(x, 0));
        all = seq(x, all, print(x, 100), print(x, 100));
        x.body(0, all);
        x.run();
        Check.same("below the smallest number", x.meanPrinted(), -4294967296.0 / 5);
    }

    private static void meanOfMore() {
        Check.about("promise 22: of all numbers that were PRINTED, also those that are not kept");
        for (int times = 39; times <= 42; times++) {
            Tower x = printing(times);
            Check.same("of " + times, x.meanPrinted(), (times - 1) / 2.0);
        }
    }

    private static void many() {
        Check.about("promise 23: if what is not 0 to 9");
        arguments("many(what)", NEW, 0, 9, Tower::many);
        arguments("many(what)", RAN, 0, 9, Tower::many);
        arguments("many(what)", FAULTY, 0, 9, Tower::many);
    }

    private static void manyWithFaults() {
        Check.about("promise 23: NODES that are IN none; CODE and ROWS of all (both 0 with FAULTS)");
        Tower x = RAN.get();
        int length = 0;
        int rows = 0;
        for (int p = 0; p < 4; p++) {
            length += x.ofProcedure(p, 3);
            rows += x.ofProcedure(p, 4);
        }
        int[] due = {7, 4, 13, 0, 0, length, rows, 800, 10, 0};
        for (int what = 0; what <= 9; what++) {
            Check.same("many(" + what + ")", x.many(what), due[what]);
        }
        Check.same("whether there are ROWS", rows > 0, true);
        Tower y = FAULTY.get();
        int[] faulty = {7, 5, 13, 0, 1, 0, 0, 800, 10, 0};
        for (int what = 0; what <= 9; what++) {
            Check.same("with a FAULT, many(" + what + ")", y.many(what), faulty[what]);
        }
        y.node(CATCH, 0, print(y, 1), NONE);
        Check.same("many(3)", y.many(3), 2);
        y.body(4, print(y, 1));
        Check.same("many(3)", y.many(3), 2);
        Check.same("many(5)", y.many(5), length + 3);
        Check.same("many(6)", y.many(6), rows);
        y.body(0, print(y, 2));
        Check.same("many(3), as the BODY of MAIN is another one", y.many(3), 2 + 10);
        y.prune(true);
        Check.same("many(9)", y.many(9), 1);
    }

    /** Each PROCEDURE CALLS the next one, of which the last one throws what the one before it catches. */
    private static Tower calling(int procedures) {
        Tower x = new Tower();
        for (int p = 1; p < procedures; p++) {
            x.procedure(0);
        }
        x.body(procedures - 1, x.node(DIV, 0, 0, 0));
        for (int p = procedures - 2; p >= 0; p--) {
            x.body(p, caught(x, x.node(CALL, p, p + 1, 0), ROOT, print(x, p)));
        }
        return x;
    }

    private static void manyOfAll() {
        Check.about("promise 23: how long the CODE of all is, ROWS of all; of 1, 2, 7 and 8 PROCEDURES");
        for (int procedures : new int[] {1, 2, 7, 8}) {
            Tower x = calling(procedures);
            int last = procedures - 1;
            Check.same("many(1)", x.many(1), procedures);
            faults(x);
            Check.same("many(5) of " + procedures, x.many(5), 6 * last + 3);
            Check.same("many(6) of " + procedures, x.many(6), last);
            for (int p = 0; p < procedures; p++) {
                Check.same("ofProcedure(" + p + ", 3)", x.ofProcedure(p, 3), p == last ? 3 : 6);
                Check.same("ofProcedure(" + p + ", 4)", x.ofProcedure(p, 4), p == last ? 0 : 1);
                Check.same("code(" + p + ", 0, 0)", x.code(p, 0, 0), p == last ? 3 : 9);
                Check.same("code(" + p + ", 0, 2)", x.code(p, 0, 2), p == last ? 0 : p + 1);
            }
            Check.same("run()", x.run(), procedures == 1 ? 1 : 0);
            ofRun(x, procedures == 1 ? 1 : 0, 0, procedures == 1 ? 0 : NONE, procedures == 1 ? 1 : 2 * last + 3,
                    procedures == 1 ? 0 : 1, procedures, 1, procedures, 0, 1);
            for (int p = 0; p < procedures; p++) {
                Check.same("ofProcedure(" + p + ", 5)", x.ofProcedure(p, 5), 1);
            }
            int all = procedures;
            outOfBounds("code(" + all + ", 0, 0)", () -> calling(all), y -> y.code(all, 0, 0));
            outOfBounds("row(" + all + ", 0, 0)", () -> calling(all), y -> y.row(all, 0, 0));
            outOfBounds("row(" + last + ", 0, 0), of which there is none", () -> calling(all), y -> y.row(last, 0, 0));
            Check.same("digest()", x.digest(), Digest.of(x));
        }
    }

    // ---- promises 24 to 27

    private static void wouldRun() {
        Check.about("promise 24: if most is not 1 to 3000, deep is not 1 to 30, or what is not 0 to 8");
        for (int most : new int[] {1, 2, 2999, 3000}) {
            for (int deep : new int[] {1, 2, 29, 30}) {
                Tower x = RAN.get();
                Check.same("wouldRun(" + most + ", " + deep + ", 3)", x.wouldRun(most, deep, 3),
                        Math.min(most, deep == 1 ? 5 : 13));
            }
        }
        arguments("wouldRun(most, 1, 0)", RAN, 1, 3000, (x, most) -> x.wouldRun(most, 1, 0));
        arguments("wouldRun(1, deep, 0)", RAN, 1, 30, (x, deep) -> x.wouldRun(1, deep, 0));
        arguments("wouldRun(1, 1, what)", RAN, 0, 8, (x, what) -> x.wouldRun(1, 1, what));
        arguments("wouldRun(3000, 30, what)", RAN, 0, 8, (x, what) -> x.wouldRun(3000, 30, what));
        Check.about("promise 24: if there are FAULTS");
        illegalState("wouldRun(1, 1, 0)", NEW, x -> x.wouldRun(1, 1, 0));
        illegalState("wouldRun(3000, 30, 8)", FAULTY, x -> x.wouldRun(3000, 30, 8));
        Check.about("promise 24: both, the first one is thrown");
        illegalArgument("wouldRun(0, 1, 0)", FAULTY, x -> x.wouldRun(0, 1, 0));
        illegalArgument("wouldRun(3001, 1, 0)", FAULTY, x -> x.wouldRun(3001, 1, 0));
        illegalArgument("wouldRun(1, 0, 0)", FAULTY, x -> x.wouldRun(1, 0, 0));
        illegalArgument("wouldRun(1, 31, 0)", NEW, x -> x.wouldRun(1, 31, 0));
        illegalArgument("wouldRun(1, 1, 9)", NEW, x -> x.wouldRun(1, 1, 9));
        illegalArgument("wouldRun(1, 1, -1)", NEW, x -> x.wouldRun(1, 1, NONE));
    }

    private static void wouldRunChangesNothing() {
        Check.about("promise 24: that of a run with these; nothing is changed");
        Tower x = RAN.get();
        long digest = x.digest();
        int[] whole = {1, 0, 2, 13, 2, 4, 3, 2, 1};
        int[] cut = {2, 0, NONE, 12, 1, 4, 3, 2, 1};
        int[] one = {2, 0, NONE, 1, 0, 1, 0, 1, 0};
        for (int what = 0; what <= 8; what++) {
            Check.same("wouldRun(13, 2, " + what + ")", x.wouldRun(13, 2, what), whole[what]);
            Check.same("wouldRun(3000, 30, " + what + ")", x.wouldRun(3000, 30, what), whole[what]);
            Check.same("wouldRun(12, 2, " + what + ")", x.wouldRun(12, 2, what), cut[what]);
            Check.same("wouldRun(1, 1, " + what + ")", x.wouldRun(1, 1, what), one[what]);
        }
        Check.same("digest()", x.digest(), digest);
        Check.same("many(7)", x.many(7), 800);
        Check.same("many(8)", x.many(8), 10);
        ofRun(x, 1, 0, 2, 13, 2, 4, 3, 2, 1, 1);
        prints(x, 1, 7);
        Check.same("held(11)", x.held(11), 0);
        Check.same("ofKind(3, 4)", x.ofKind(ZERO, 4), 1);
        Check.same("ofProcedure(1, 5)", x.ofProcedure(1, 5), 1);
        Check.same("ofNode(12, 7)", x.ofNode(12, 7), 1);
    }

    private static void catcher() {
        Check.about("promise 25: if there is no such NODE, or CLASS");
        indexes("catcher(n, 0)", RAN, 0, 12, (x, node) -> x.catcher(node, 0));
        indexes("catcher(n, 6)", FAULTY, 0, 12, (x, node) -> x.catcher(node, 6));
        indexes("catcher(0, k)", RAN, 0, 6, (x, kind) -> x.catcher(0, kind));
        indexes("catcher(12, k)", FAULTY, 0, 6, (x, kind) -> x.catcher(12, kind));
        outOfBounds("catcher(0, 0) without NODES", NEW, x -> x.catcher(0, 0));
        outOfBounds("catcher(13, 7)", RAN, x -> x.catcher(13, 7));
        Supplier<Tower> ninety = () -> {
            Tower x = Samples.withKinds(13);
            for (int k = 0; k < 90; k++) {
                print(x, k);
            }
            return x;
        };
        indexes("catcher(n, 12)", ninety, 0, 89, (x, node) -> x.catcher(node, 12));
        indexes("catcher(89, k)", ninety, 0, 12, (x, kind) -> x.catcher(89, kind));
    }

    private static void catcherOfKinds() {
        Check.about("promise 25: the CATCH that would be run with an EXCEPTION of that CLASS; NONE without one, or IN none");
        Tower x = new Tower();
        x.kind(ZERO, true);
        x.kind(5, false);
        int thrown = print(x, 1);
        int third = x.node(CATCH, ROOT, print(x, 2), NONE);
        int second = x.node(CATCH, 5, print(x, 3), third);
        int first = x.node(CATCH, RING, print(x, 4), second);
        int tried = x.node(TRY, NONE, thrown, first);
        for (int kind = 0; kind < 7; kind++) {
            Check.same("IN none, catcher(" + kind + ")", x.catcher(thrown, kind), NONE);
        }
        x.body(0, tried);
        int[] due = {third, third, first, third, third, second, second};
        for (int kind = 0; kind < 7; kind++) {
            Check.same("catcher(.., " + kind + ")", x.catcher(thrown, kind), due[kind]);
            Check.same("of the TRY itself, " + kind, x.catcher(tried, kind), NONE);
        }
        Check.same("with a FAULT all the same", x.many(4), 1);
        x.body(0, print(x, 5));
        Check.same("as it is IN none again", x.catcher(thrown, ROOT), NONE);
        int alone = x.node(TRY, print(x, 1), print(x, 2), x.node(CATCH, 5, print(x, 3), NONE));
        x.body(0, alone);
        int b = x.ofNode(alone, 2);
        int only = x.ofNode(alone, 3);
        int[] none = {NONE, NONE, NONE, NONE, NONE, only, only};
        for (int kind = 0; kind < 7; kind++) {
            Check.same("catcher(.., " + kind + ") of one CATCH", x.catcher(b, kind), none[kind]);
        }
    }

    private static void catcherOfPlaces() {
        Check.about("promise 25: in its PROCEDURE, if the NODE threw it, and each FINALLY came to its end");
        Tower x = new Tower();
        int p = x.procedure(0);
        int called = print(x, 1);
        x.body(p, called);
        int b = x.node(CALL, 0, p, 0);
        int inNext = print(x, 2);
        int next = x.node(CATCH, ROOT, inNext, NONE);
        int inCatch = print(x, 3);
        int first = x.node(CATCH, ZERO, inCatch, next);
        int last = x.node(RETURN, 0, 4, 0);
        int inner = x.node(TRY, last, b, first);
        int looped = x.node(LOOP, 0, inner, 0);
        int used = x.node(USING, p, looped, p);
        int inOuter = print(x, 5);
        int outer = x.node(CATCH, RING, inOuter, NONE);
        int ofFinally = print(x, 6);
        int tried = x.node(TRY, ofFinally, used, outer);
        x.body(0, tried);
        int[][] due = {{b, RING, next}, {b, ZERO, first}, {inNext, RING, outer}, {inNext, ZERO, NONE}, {inCatch, RING, outer},
            {next, RING, outer}, {first, RING, outer}, {first, ZERO, NONE}, {last, RING, outer}, {last, ZERO, NONE},
            {inner, RING, outer}, {inner, ZERO, NONE}, {looped, RING, outer}, {used, RING, outer}, {used, ROOT, NONE},
            {inOuter, RING, NONE}, {outer, RING, NONE}, {ofFinally, RING, NONE}, {tried, RING, NONE}, {called, RING, NONE}};
        for (int[] one : due) {
            Check.same("catcher(" + one[0] + ", " + one[1] + ")", x.catcher(one[0], one[1]), one[2]);
        }
    }

    private static void faultsWith() {
        Check.about("promise 26: if there is no such PROCEDURE");
        indexes("faultsWith(p, 1)", NEW, 0, 0, (x, procedure) -> x.faultsWith(procedure, 1));
        indexes("faultsWith(p, 0)", RAN, 0, 3, (x, procedure) -> x.faultsWith(procedure, 0));
        indexes("faultsWith(p, 0)", FAULTY, 0, 4, (x, procedure) -> x.faultsWith(procedure, 0));
        indexes("faultsWith(p, 0)", () -> Samples.withProcedures(8), 0, 7, (x, p) -> x.faultsWith(p, 0));
        Check.about("promise 26: IllegalArgumentException as with procedure()");
        arguments("faultsWith(0, t)", NEW, 0, 31, (x, tells) -> x.faultsWith(0, tells));
        arguments("faultsWith(3, t)", RAN, 0, 127, (x, tells) -> x.faultsWith(3, tells));
        arguments("faultsWith(4, t)", FAULTY, 0, 127, (x, tells) -> x.faultsWith(4, tells));
        Tower x = Samples.withKinds(13);
        Check.same("faultsWith(0, 8191)", x.faultsWith(0, 8191), 1);
        illegalArgument("faultsWith(0, 8192)", () -> Samples.withKinds(13), y -> y.faultsWith(0, 8192));
        Check.about("promise 26: both, the first one is thrown");
        outOfBounds("faultsWith(4, 128)", RAN, y -> y.faultsWith(4, 128));
        outOfBounds("faultsWith(-1, -1)", RAN, y -> y.faultsWith(NONE, NONE));
    }

    private static void faultsWithAll() {
        Check.about("promise 26: how many FAULTS there would be, if it TOLD that; nothing is changed");
        for (int tells = 0; tells < 128; tells++) {
            Tower x = RAN.get();
            // what the PROCEDURE 1 throws is CHECKED: it has to tell 6, 5 or ROOT; CATCH 5 in MAIN needs 5 or 6
            boolean isTold = (tells & (1 | 32 | 64)) != 0;
            boolean isIdle = (tells & (32 | 64)) == 0;
            int due = (isTold ? 0 : 1) + (isIdle ? 1 : 0);
            long digest = x.digest();
            Check.same("faultsWith(1, " + tells + ")", x.faultsWith(1, tells), due);
            Check.same("digest() behind it", x.digest(), digest);
            Check.same("many(4) behind it", x.many(4), 0);
            Check.same("ofProcedure(1, 0) behind it", x.ofProcedure(1, 0), 64);
            Check.same("tell(1, " + tells + ")", x.tell(1, tells), 64);
            Check.same("many(4) as that is told", x.many(4), due);
        }
        Check.about("promise 26: with 8 as well");
        Tower x = new Tower();
        x.kind(ROOT, true);
        x.body(0, doubled(x, 6));
        int p = x.procedure(0);
        x.body(p, x.node(THROW, 5, 0, 0));
        Check.same("many(4)", x.many(4), 1);
        Check.same("fault(0, 0)", x.fault(0, 0), 3);
        Check.same("faultsWith(p, 32)", x.faultsWith(p, 32), 1);
        x.tell(p, 32);
        Check.same("fault(0, 0)", x.fault(0, 0), 8);
    }

    private static void digest() {
        Check.about("promise 27: a number starts with 58128; d becomes d * 31 + v, which wraps around");
        Tower x = new Tower();
        long d = 58128;
        int[] all = {5, 1, 0, 0, 1, 0, 0, 800, 10, 0, NONE, 0, 31, 0, 0, 0, 0, 2, 0, 0, 0, 0, 4, 0, 0, 0, 0, 8, 0, 0, 0, 0,
            16, 0, 0, 0, NONE, 0, 0, 0, 0, 10, 0, NONE, NONE, 0, 0, 0, 0, 0, 0, 0, 0, 0, 0, 0, 0, 0, 0, 0, 0, 0, 0, 0, 0, NONE,
            NONE, NONE, NONE};
        for (int v : all) {
            d = d * 31 + v;
        }
        Check.same("digest() of a new object", x.digest(), d);
        Check.same("digest() once more", x.digest(), d);
        Check.about("promise 27: with FAULTS, and without; ahead of runs, and behind them");
        Tower[] towers = {NEW.get(), RAN.get(), FAULTY.get(), Samples.withKinds(12), Samples.withKinds(13),
            Samples.withProcedures(8), beneath(3), traced(6)};
        for (Tower one : towers) {
            Check.same("digest()", one.digest(), Digest.of(one));
        }
        Check.same("whether a run counts", RAN.get().digest() == FAULTY.get().digest(), false);
        Check.about("promise 27: catcher() of 0 and of the last CLASS");
        Tower last = new Tower();
        last.kind(ROOT, false);
        last.kind(ROOT, false);
        int second = last.node(CATCH, 5, print(last, 1), NONE);
        last.body(0, last.node(TRY, NONE, print(last, 2), last.node(CATCH, 6, print(last, 3), second)));
        Check.same("digest()", last.digest(), Digest.of(last));
        for (int kind = ROOT; kind <= EMPTY; kind++) {
            for (int without = 0; without <= 4; without++) {
                Tower y = new Tower();
                for (int p = 0; p < without; p++) {
                    y.procedure(0);
                }
                y.body(0, caught(y, print(y, 1), kind, print(y, 2)));
                Check.same("FAULTS", y.many(4), without);
                Check.same("digest() with a CATCH of " + kind, y.digest(), Digest.of(y));
            }
        }
        Check.about("promise 27: of wouldRun() of 150, 4");
        for (int more = 0; more <= 2; more++) {
            Tower y = new Tower();
            int set = y.node(SET, 1, 1, 0);
            int parts = more == 0 ? set : y.node(IF, 1, set, NONE);
            y.body(0, y.node(SEQ, 0, turns(y, 48, y.node(SET, 3, 1, 0)), more == 2 ? y.node(IF, 1, parts, NONE) : parts));
            Check.same("STEPS", y.wouldRun(3000, 1, 3), 149 + more);
            Check.same("digest()", y.digest(), Digest.of(y));
        }
        for (int deeper = 1; deeper <= 3; deeper++) {
            Tower y = new Tower();
            int p = y.procedure(0);
            y.body(p, y.node(IF, 101, y.node(SEQ, 0, y.node(ADD, 1, -1, 0), y.node(CALL, 2, p, 0)), NONE));
            y.body(0, seq(y, y.node(SET, 1, deeper, 0), y.node(CALL, 2, p, 0)));
            Check.same("PROCEDURES in each other", y.wouldRun(3000, 30, 7), 2 + deeper);
            Check.same("digest()", y.digest(), Digest.of(y));
        }
    }

    private static void digestOfKept() {
        Check.about("promise 27: of what is kept printed(); of each EXCEPTION that is kept ..");
        for (int times = 39; times <= 41; times++) {
            Tower x = printing(times);
            Check.same("digest() of " + times + " PRINTED", x.digest(), Digest.of(x));
            Tower y = throwing(times);
            Check.same("digest() of " + times + " EXCEPTIONS", y.digest(), Digest.of(y));
        }
    }
}
