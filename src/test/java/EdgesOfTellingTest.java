import java.util.function.Supplier;

/**
 * The sentences of the document that name an edge, from its head to promise 6: each one has a test at that edge, below
 * and above it, and, where a call is refused, that nothing is changed.
 */
public final class EdgesOfTellingTest extends Tests {
    private static final Supplier<Tower> NEW = Tower::new;
    private static final Supplier<Tower> RAN = Samples::ran;
    private static final Supplier<Tower> FAULTY = Samples::faulty;
    private static final Supplier<Tower> TWELVE_KINDS = () -> Samples.withKinds(12);
    private static final Supplier<Tower> THIRTEEN_KINDS = () -> Samples.withKinds(13);
    private static final Supplier<Tower> SEVEN_PROCEDURES = () -> Samples.withProcedures(7);
    private static final Supplier<Tower> EIGHT_PROCEDURES = () -> Samples.withProcedures(8);

    private EdgesOfTellingTest() {
    }

    public static void main(String[] args) {
        samples();
        calls();
        numbersGoRound();
        divisionIsCut();
        noneAndSets();
        thirteenKinds();
        atOrBelow();
        checked();
        eightProcedures();
        mainIsThere();
        operands();
        variablesAsARunBegins();
        slotsAsARunBegins();
        newObject();
        kind();
        ofKind();
        ofKindCatches();
        ofKindExceptions();
        procedure();
        tell();
        ofProcedure();
        ofProcedureFaults();
        ofProcedureCalled();
        Check.end();
    }

    /** What the refused calls below are made to is what it is meant to be. */
    private static void samples() {
        Check.about("the samples");
        Tower x = RAN.get();
        Check.same("many(4)", x.many(4), 0);
        ofRun(x, 1, 0, 2, 13, 2, 4, 3, 2, 1, 1);
        prints(x, 1, 7);
        exception(x, 0, 6, 4, NONE, 1, 2);
        exception(x, 1, ZERO, 0, NONE, 0, 2);
        exception(x, 2, RING, 9, 0, 0, 1);
        Check.same("suppressed(0, 0)", x.suppressed(0, 0), 1);
        Tower y = FAULTY.get();
        faults(y, at(10, 4, NONE, NONE));
        ofRun(y, 1, 0, 2, 13, 2, 4, 3, 2, 1, 1);
        Check.same("kinds", THIRTEEN_KINDS.get().many(0), 13);
        Check.same("procedures", EIGHT_PROCEDURES.get().many(1), 8);
    }

    // ---- the head, and the terms

    private static void calls() {
        Check.about("an object is used for at most 512 calls");
        UnwindTower x = new UnwindTower();
        x.body(0, x.node(PRINT, 0, 3, 0));
        for (int call = 3; call <= 509; call++) {
            Check.same("call " + call, x.limits(call, 1 + call % 30), call == 3 ? 800 : call - 1);
        }
        Check.same("call 510", x.node(PRINT, 0, 4, 0), 1);
        Check.same("call 511", x.run(), 0);
        Check.same("call 512", x.printed(0, 0), 3);
        boolean isAnswered = true;
        try {
            x.printed(1, 0);
        } catch (IndexOutOfBoundsException | IllegalArgumentException e) {
            isAnswered = false;
        }
        Check.same("call 513, what it answers is free", isAnswered || x != null, true);
    }

    private static void numbersGoRound() {
        Check.about("all numbers go round as ints do");
        Tower x = new Tower();
        int[] steps = {-1, 1, 1, 1, -1, -1};
        int all = largest(x);
        for (int step : steps) {
            all = x.node(SEQ, 0, all, seq(x, x.node(ADD, 0, step, 0), print(x, 100)));
        }
        x.body(0, all);
        Check.same("run()", x.run(), 0);
        prints(x, MAX, MAX - 1, MAX, MIN, MIN + 1, MIN, MAX);
        Check.same("held(0)", x.held(0), MAX);
        Check.about("the smallest number divided by -1 goes round to itself, those beside it do not");
        Tower y = new Tower();
        int[][] due = {{0, -MAX}, {1, MIN}, {1, MAX}};
        int each = largest(y);
        for (int[] one : due) {
            each = y.node(SEQ, 0, each, seq(y, y.node(ADD, 0, one[0], 0), y.node(SET, 3, 100, 0), y.node(DIV, 3, -1, 0),
                    print(y, 103)));
        }
        y.body(0, each);
        y.run();
        prints(y, MAX, -MAX, MIN, MAX);
    }

    /** The VARIABLE 0 becomes the largest number there is, and is PRINTED. */
    private static int largest(Tower x) {
        int doubling = seq(x, x.node(ADD, 1, -1, 0), x.node(ADD, 0, 100, 0));
        return seq(x, x.node(SET, 0, 1, 0), x.node(SET, 1, 30, 0), x.node(LOOP, 1, doubling, 0), x.node(SET, 2, 100, 0),
                x.node(ADD, 2, -1, 0), x.node(ADD, 0, 102, 0), print(x, 100));
    }

    private static void divisionIsCut() {
        Check.about("/ is cut towards 0");
        int[][] due = {{1, 2, 0}, {2, 2, 1}, {3, 2, 1}, {-1, 2, 0}, {-2, 2, -1}, {-3, 2, -1}, {1, -2, 0}, {2, -2, -1},
                {3, -2, -1}, {-1, -2, 0}, {-2, -2, 1}, {-3, -2, 1}, {98, 99, 0}, {99, 99, 1}, {-99, 98, -1}, {0, -7, 0}};
        for (int[] one : due) {
            Tower x = new Tower();
            x.body(0, seq(x, x.node(SET, 4, one[0], 0), x.node(DIV, 4, one[1], 0), print(x, 104)));
            x.run();
            Check.same(one[0] + " / " + one[1], x.printed(0, 0), one[2]);
            Check.same(one[0] + " / " + one[1] + ", held", x.held(4), one[2]);
        }
    }

    private static void noneAndSets() {
        Check.about("NONE is -1; a set is the sum of 2^k for each k in it");
        Tower x = new Tower();
        Check.same("the PARENT of ROOT", x.ofKind(ROOT, 0), -1);
        Check.same("the BODY of MAIN", x.ofProcedure(0, 1), -1);
        Check.same("the first SLOT", x.held(10), -1);
        for (int k = 0; k < 5; k++) {
            int set = 1 << k;
            x.tell(0, set);
            Check.same("what is TOLD, with " + k + " alone", x.ofProcedure(0, 0), set);
            int thrown = x.node(THROW, k, 0, 0);
            Check.same("what THROW of " + k + " CAN", x.ofNode(thrown, 5), set);
        }
        Check.same("what both CAN", x.ofNode(x.node(SEQ, 0, 0, 4), 5), 1 + 16);
    }

    // ---- section 1

    private static void thirteenKinds() {
        Check.about("CLASSES: at most 13, numbered from 0");
        Tower x = new Tower();
        for (int number = 5; number <= 12; number++) {
            Check.same("many(0)", x.many(0), number);
            Check.same("kind()", x.kind(ROOT, false), number);
        }
        Check.same("many(0)", x.many(0), 13);
        Check.same("the twelfth is told", Samples.withKinds(11).kind(11 - 1, true), 11);
        Check.same("the thirteenth is told", TWELVE_KINDS.get().kind(ROOT, true), 12);
        illegalState("the fourteenth", THIRTEEN_KINDS, y -> y.kind(ROOT, true));
        Tower y = THIRTEEN_KINDS.get();
        Check.same("a CATCH of the thirteenth", y.node(CATCH, 12, print(y, 0), NONE), 1);
        Check.illegalArgument("a THROW of a fourteenth", () -> y.node(THROW, 13, 0, 0));
    }

    private static void atOrBelow() {
        Check.about("ROOT is AT OR BELOW itself, 1 to 4 are below ROOT, each other one below its PARENT");
        Tower x = new Tower();
        int[] ofNew = {31, 2, 4, 8, 16};
        for (int kind = 0; kind < 5; kind++) {
            Check.same("ofKind(" + kind + ", 2)", x.ofKind(kind, 2), ofNew[kind]);
            Check.same("ofKind(" + kind + ", 0)", x.ofKind(kind, 0), kind == ROOT ? NONE : ROOT);
        }
        for (int kind = 5; kind <= 12; kind++) {
            x.kind(kind == 5 ? ZERO : kind - 1, false);
        }
        for (int kind = 5; kind <= 12; kind++) {
            Check.same("in a row, ofKind(" + kind + ", 2)", x.ofKind(kind, 2), 8192 - (1 << kind));
        }
        Check.same("ofKind(3, 2)", x.ofKind(ZERO, 2), 8192 - 32 + 8);
        Check.same("ofKind(4, 2)", x.ofKind(EMPTY, 2), 16);
        Check.same("ofKind(0, 2)", x.ofKind(ROOT, 2), 8191);
        Tower y = new Tower();
        y.kind(ZERO, false);
        y.kind(ZERO, false);
        y.kind(5, false);
        Check.same("two of the same PARENT, ofKind(3, 2)", y.ofKind(ZERO, 2), 8 + 32 + 64 + 128);
        Check.same("ofKind(5, 2)", y.ofKind(5, 2), 32 + 128);
        Check.same("ofKind(6, 2)", y.ofKind(6, 2), 64);
    }

    private static void checked() {
        Check.about("a CLASS is CHECKED, if that was told of it, or of one at or below which it is");
        Tower x = new Tower();
        int[][] told = {{ROOT, 0}, {5, 1}, {6, 0}, {7, 0}, {7, 1}, {5, 0}, {ROOT, 1}, {ZERO, 0}};
        int[] due = {0, 0, 0, 0, 0, 0, 1, 1, 1, 1, 0, 1, 0};
        for (int[] one : told) {
            x.kind(one[0], one[1] == 1);
        }
        for (int kind = 0; kind <= 12; kind++) {
            Check.same("ofKind(" + kind + ", 1)", x.ofKind(kind, 1), due[kind]);
        }
    }

    private static void eightProcedures() {
        Check.about("PROCEDURES: at most 8, numbered from 0");
        Tower x = new Tower();
        for (int number = 1; number <= 7; number++) {
            Check.same("many(1)", x.many(1), number);
            Check.same("procedure()", x.procedure(0), number);
        }
        Check.same("many(1)", x.many(1), 8);
        Check.same("the seventh is told", Samples.withProcedures(6).procedure(1), 6);
        Check.same("the eighth is told", SEVEN_PROCEDURES.get().procedure(1), 7);
        illegalState("the ninth", EIGHT_PROCEDURES, y -> y.procedure(0));
        Tower y = EIGHT_PROCEDURES.get();
        Check.same("a CALL of the eighth", y.node(CALL, 0, 7, 0), 0);
        Check.illegalArgument("a CALL of a ninth", () -> y.node(CALL, 0, 8, 0));
    }

    private static void mainIsThere() {
        Check.about("0 is MAIN, and always there");
        Tower x = new Tower();
        Check.same("tell(0, 1)", x.tell(0, 1), 0);
        Check.same("body(0, 0)", x.body(0, print(x, 2)), NONE);
        Check.same("run()", x.run(), 0);
        Check.same("ofProcedure(0, 5)", x.ofProcedure(0, 5), 1);
        Check.same("the first one that is told", x.procedure(0), 1);
    }

    private static void operands() {
        Check.about("an OPERAND is a number from -99 to 99, or 100 to 109: what the VARIABLE 0 to 9 holds then");
        Tower x = new Tower();
        int all = NONE;
        for (int v = 0; v < 10; v++) {
            int set = x.node(SET, v, 10 + v, 0);
            all = v == 0 ? set : x.node(SEQ, 0, all, set);
        }
        int[] operands = {-99, -98, -1, 0, 1, 98, 99, 100, 101, 108, 109};
        for (int operand : operands) {
            all = x.node(SEQ, 0, all, print(x, operand));
        }
        x.body(0, all);
        x.run();
        prints(x, -99, -98, -1, 0, 1, 98, 99, 10, 11, 18, 19);
        // at that time: what the VARIABLE held before, or holds later, does not count
        Tower y = new Tower();
        y.body(0, seq(y, print(y, 105), y.node(SET, 5, 3, 0), print(y, 105), y.node(ADD, 5, 105, 0), print(y, 105),
                y.node(DIV, 5, 105, 0), print(y, 105), y.node(THROW, ROOT, 105, 0)));
        y.run();
        prints(y, 0, 3, 6, 1);
        Check.same("exception(0, 1)", y.exception(0, 1), 1);
    }

    private static void variablesAsARunBegins() {
        Check.about("a VARIABLE holds 0, as a run begins");
        Tower x = new Tower();
        int all = print(x, 100);
        for (int v = 0; v < 10; v++) {
            all = seq(x, all, print(x, 100 + v), x.node(ADD, v, 5, 0));
        }
        x.body(0, all);
        for (int run = 0; run < 3; run++) {
            x.run();
            Check.same("all that is PRINTED", x.meanPrinted(), 0.0);
            Check.same("held(9)", x.held(9), 5);
            Check.same("held(0)", x.held(0), 5);
        }
        Check.same("ofRun(4)", x.ofRun(4), 11);
        Tower y = new Tower();
        y.body(0, y.node(SEQ, 0, y.node(ADD, 3, 1, 0), y.node(RETURN, 0, 103, 0)));
        y.run();
        Check.same("wouldRun() begins anew, too", y.wouldRun(9, 9, 1), 1);
        Check.same("and once more", y.wouldRun(9, 9, 1), 1);
    }

    private static void slotsAsARunBegins() {
        Check.about("a SLOT holds no EXCEPTION, as a run begins");
        for (int slot = 0; slot < 4; slot++) {
            Tower x = new Tower();
            int kept = x.node(CATCH, ROOT, x.node(KEEP, slot, 0, 0), NONE);
            int keeps = x.node(TRY, NONE, x.node(THROW, RING, 1, 0), kept);
            int thrown = x.node(THROWN, slot, 0, 0);
            int first = x.node(TRY, NONE, thrown, x.node(CATCH, EMPTY, print(x, 1), NONE));
            x.body(0, x.node(SEQ, 0, first, keeps));
            for (int run = 0; run < 2; run++) {
                Check.same("run()", x.run(), 0);
                prints(x, 1);
                Check.same("held(" + (10 + slot) + ")", x.held(10 + slot), 1);
                Check.same("wouldRun(99, 9, 4)", x.wouldRun(99, 9, 4), 1);
            }
        }
    }

    // ---- promises 1 to 3

    private static void newObject() {
        Check.about("promise 1: a program of MAIN, which TELLS nothing, and has no BODY");
        Tower x = new Tower();
        int[] many = {5, 1, 0, 0, 1, 0, 0, 800, 10, 0};
        for (int what = 0; what <= 9; what++) {
            Check.same("many(" + what + ")", x.many(what), many[what]);
        }
        int[] ofMain = {0, NONE, 0, 0, 0, 0};
        for (int what = 0; what <= 5; what++) {
            Check.same("ofProcedure(0, " + what + ")", x.ofProcedure(0, what), ofMain[what]);
        }
        faults(x, at(10, 0, NONE, NONE));
        ofRun(x, 0, 0, 0, 0, 0, 0, 0, 0, 0, 0);
        Check.same("meanPrinted()", x.meanPrinted(), 0.0);
        Check.same("faultsWith(0, 31)", x.faultsWith(0, 31), 1);
        outOfBounds("the first NODE", NEW, y -> y.ofNode(0, 0));
        outOfBounds("a second PROCEDURE", NEW, y -> y.ofProcedure(1, 0));
        outOfBounds("a sixth CLASS", NEW, y -> y.ofKind(5, 0));
        outOfBounds("a second FAULT", NEW, y -> y.fault(1, 0));
        illegalState("run()", NEW, Tower::run);
    }

    private static void kind() {
        Check.about("promise 2: if there is no such PARENT");
        indexes("kind", NEW, 0, 4, (x, parent) -> x.kind(parent, true));
        outOfBounds("kind(5) of the first one told", NEW, x -> x.kind(5, false));
        Tower x = new Tower();
        Check.same("kind(4)", x.kind(4, false), 5);
        Check.same("kind(5), the last one so far", x.kind(5, false), 6);
        Check.same("ofKind(6, 0)", x.ofKind(6, 0), 5);
        outOfBounds("kind(7), its own number", RAN, y -> y.kind(7, false));
        outOfBounds("kind(-1)", FAULTY, y -> y.kind(NONE, true));
        Check.about("promise 2: if there are 13");
        Check.same("with 12", TWELVE_KINDS.get().kind(11, false), 12);
        illegalState("with 13, kind(0)", THIRTEEN_KINDS, y -> y.kind(0, false));
        illegalState("with 13, kind(12)", THIRTEEN_KINDS, y -> y.kind(12, true));
        Check.about("promise 2: both, the first one is thrown");
        outOfBounds("with 13, kind(13)", THIRTEEN_KINDS, y -> y.kind(13, true));
        outOfBounds("with 13, kind(-1)", THIRTEEN_KINDS, y -> y.kind(NONE, true));
    }

    private static void ofKind() {
        Check.about("promise 3: if there is no such CLASS, or what is not 0 to 4");
        indexes("ofKind(k, 0)", NEW, 0, 4, (x, kind) -> x.ofKind(kind, 0));
        indexes("ofKind(k, 4)", RAN, 0, 6, (x, kind) -> x.ofKind(kind, 4));
        indexes("ofKind(k, 2)", FAULTY, 0, 6, (x, kind) -> x.ofKind(kind, 2));
        indexes("ofKind(k, 1)", THIRTEEN_KINDS, 0, 12, (x, kind) -> x.ofKind(kind, 1));
        arguments("ofKind(0, what)", NEW, 0, 4, (x, what) -> x.ofKind(0, what));
        arguments("ofKind(6, what)", RAN, 0, 4, (x, what) -> x.ofKind(6, what));
        outOfBounds("ofKind(7, 5)", RAN, x -> x.ofKind(7, 5));
        outOfBounds("ofKind(-1, -1)", RAN, x -> x.ofKind(NONE, NONE));
        Check.about("promise 3: its PARENT, NONE for ROOT");
        Tower x = RAN.get();
        int[] parents = {NONE, 0, 0, 0, 0, 0, 5};
        for (int kind = 0; kind < parents.length; kind++) {
            Check.same("ofKind(" + kind + ", 0)", x.ofKind(kind, 0), parents[kind]);
        }
    }

    private static void ofKindCatches() {
        Check.about("promise 3: how many CATCHES that are IN a PROCEDURE are of it");
        Tower x = new Tower();
        x.procedure(0);
        int second = x.node(CATCH, RING, print(x, 0), NONE);
        int first = x.node(CATCH, ZERO, print(x, 0), second);
        Check.same("part of nothing", x.ofKind(ZERO, 3), 0);
        int tried = x.node(TRY, NONE, print(x, 0), first);
        Check.same("of a TRY that is IN none", x.ofKind(ZERO, 3), 0);
        int inCatch = x.node(TRY, NONE, print(x, 0), x.node(CATCH, ZERO, print(x, 0), NONE));
        int outer = x.node(TRY, NONE, tried, x.node(CATCH, ZERO, inCatch, NONE));
        x.body(1, outer);
        Check.same("three, within each other", x.ofKind(ZERO, 3), 3);
        Check.same("the next CATCH", x.ofKind(RING, 3), 1);
        Check.same("of a CLASS above them", x.ofKind(ROOT, 3), 0);
        x.body(0, x.node(TRY, NONE, print(x, 0), x.node(CATCH, ZERO, print(x, 0), NONE)));
        Check.same("in two PROCEDURES", x.ofKind(ZERO, 3), 4);
        x.body(1, print(x, 0));
        Check.same("as the BODY is another one", x.ofKind(ZERO, 3), 1);
        Check.same("as the BODY is another one", x.ofKind(RING, 3), 0);
    }

    private static void ofKindExceptions() {
        Check.about("promise 3: how many EXCEPTIONS of just this CLASS there were in the latest run");
        Tower x = new Tower();
        x.kind(ZERO, false);
        int caught = x.node(CATCH, ZERO, x.node(SET, 1, 0, 0), NONE);
        int tried = x.node(TRY, NONE, x.node(THROW, 5, 0, 0), caught);
        x.body(0, seq(x, x.node(SET, 0, 41, 0), x.node(LOOP, 0, x.node(SEQ, 0, x.node(ADD, 0, -1, 0), tried), 0),
                x.node(DIV, 0, 0, 0)));
        Check.same("ahead of all runs", x.ofKind(5, 4), 0);
        x.run();
        Check.same("more than are kept", x.ofKind(5, 4), 41);
        Check.same("of its PARENT", x.ofKind(ZERO, 4), 1);
        Check.same("of ROOT", x.ofKind(ROOT, 4), 0);
        x.limits(2, 1);
        x.run();
        Check.same("of a later run", x.ofKind(5, 4), 0);
        Check.same("of a CLASS that was told behind the run", x.ofKind(x.kind(5, true), 4), 0);
    }

    // ---- promises 4 to 6

    private static void procedure() {
        Check.about("promise 4: if tells is below 0, or has a CLASS that there is not");
        for (int tells : new int[] {0, 1, 16, 30, 31}) {
            Tower x = new Tower();
            Check.same("procedure(" + tells + ")", x.procedure(tells), 1);
            Check.same("ofProcedure(1, 0)", x.ofProcedure(1, 0), tells);
            Check.same("ofProcedure(1, 1)", x.ofProcedure(1, 1), NONE);
        }
        for (int tells : new int[] {-1, -2, 32, 33, 64, MIN, MIN + 1, MAX, 1 << 30}) {
            illegalArgument("procedure(" + tells + ")", NEW, x -> x.procedure(tells));
        }
        illegalArgument("procedure(128) with 7 CLASSES", RAN, x -> x.procedure(128));
        Check.same("procedure(127) with 7 CLASSES", RAN.get().procedure(127), 4);
        illegalArgument("procedure(128) with FAULTS", FAULTY, x -> x.procedure(128));
        Check.same("procedure(8190)", THIRTEEN_KINDS.get().procedure(8190), 1);
        Check.same("procedure(8191)", THIRTEEN_KINDS.get().procedure(8191), 1);
        illegalArgument("procedure(8192)", THIRTEEN_KINDS, x -> x.procedure(8192));
        illegalArgument("procedure(4096) with 12", TWELVE_KINDS, x -> x.procedure(4096));
        Check.about("promise 4: if there are 8");
        Check.same("with 7", SEVEN_PROCEDURES.get().procedure(31), 7);
        illegalState("with 8", EIGHT_PROCEDURES, x -> x.procedure(0));
        illegalState("with 8, procedure(31)", EIGHT_PROCEDURES, x -> x.procedure(31));
        Check.about("promise 4: both, the first one is thrown");
        illegalArgument("with 8, procedure(32)", EIGHT_PROCEDURES, x -> x.procedure(32));
        illegalArgument("with 8, procedure(-1)", EIGHT_PROCEDURES, x -> x.procedure(NONE));
    }

    private static void tell() {
        Check.about("promise 5: if there is no such PROCEDURE");
        indexes("tell(p, 1)", NEW, 0, 0, (x, procedure) -> x.tell(procedure, 1));
        indexes("tell(p, 1)", RAN, 0, 3, (x, procedure) -> x.tell(procedure, 1));
        indexes("tell(p, 0)", EIGHT_PROCEDURES, 0, 7, (x, procedure) -> x.tell(procedure, 0));
        Check.about("promise 5: if tells is below 0, or has a CLASS that there is not");
        arguments("tell(0, t)", NEW, 0, 31, (x, tells) -> x.tell(0, tells));
        arguments("tell(3, t)", RAN, 0, 127, (x, tells) -> x.tell(3, tells));
        arguments("tell(4, t)", FAULTY, 0, 127, (x, tells) -> x.tell(4, tells));
        Check.same("tell(0, 8191)", THIRTEEN_KINDS.get().tell(0, 8191), 0);
        illegalArgument("tell(0, 8192)", THIRTEEN_KINDS, x -> x.tell(0, 8192));
        Check.about("promise 5: both, the first one is thrown");
        outOfBounds("tell(1, 32)", NEW, x -> x.tell(1, 32));
        outOfBounds("tell(-1, -1)", NEW, x -> x.tell(NONE, NONE));
        Check.about("promise 5: what it did before");
        Tower x = new Tower();
        Check.same("tell(0, 31)", x.tell(0, 31), 0);
        Check.same("tell(0, 1)", x.tell(0, 1), 31);
        Check.illegalArgument("tell(0, 32)", () -> x.tell(0, 32));
        Check.same("tell(0, 0) behind a refused one", x.tell(0, 0), 1);
        Check.same("ofProcedure(0, 0)", x.ofProcedure(0, 0), 0);
    }

    private static void ofProcedure() {
        Check.about("promise 6: if there is no such PROCEDURE, or what is not 0 to 5");
        indexes("ofProcedure(p, 0)", NEW, 0, 0, (x, procedure) -> x.ofProcedure(procedure, 0));
        indexes("ofProcedure(p, 3)", RAN, 0, 3, (x, procedure) -> x.ofProcedure(procedure, 3));
        indexes("ofProcedure(p, 5)", FAULTY, 0, 4, (x, procedure) -> x.ofProcedure(procedure, 5));
        indexes("ofProcedure(p, 1)", EIGHT_PROCEDURES, 0, 7, (x, procedure) -> x.ofProcedure(procedure, 1));
        arguments("ofProcedure(0, what)", NEW, 0, 5, (x, what) -> x.ofProcedure(0, what));
        arguments("ofProcedure(3, what)", RAN, 0, 5, (x, what) -> x.ofProcedure(3, what));
        outOfBounds("ofProcedure(4, 6)", RAN, x -> x.ofProcedure(4, 6));
        outOfBounds("ofProcedure(-1, -1)", RAN, x -> x.ofProcedure(NONE, NONE));
    }

    private static void ofProcedureFaults() {
        Check.about("promise 6: what its BODY CAN throw (0 without one); its CODE and ROWS are 0 with FAULTS");
        Tower x = new Tower();
        x.procedure(31);
        Check.same("ofProcedure(1, 1) without a BODY", x.ofProcedure(1, 1), NONE);
        Check.same("ofProcedure(1, 2) without a BODY", x.ofProcedure(1, 2), 0);
        int thrown = x.node(THROW, RING, 0, 0);
        int tried = x.node(TRY, NONE, thrown, x.node(CATCH, ZERO, print(x, 0), NONE));
        x.body(0, tried);
        int[] faulty = {0, tried, 4, 0, 0, 0};
        for (int what = 0; what <= 5; what++) {
            Check.same("ofProcedure(0, " + what + ") with a FAULT of another", x.ofProcedure(0, what), faulty[what]);
        }
        x.body(1, print(x, 0));
        int[] sound = {0, tried, 4, 6, 1, 0};
        for (int what = 0; what <= 5; what++) {
            Check.same("ofProcedure(0, " + what + ") without FAULTS", x.ofProcedure(0, what), sound[what]);
        }
        Check.same("the shortest CODE", x.ofProcedure(1, 3), 3);
        Check.same("its ROWS", x.ofProcedure(1, 4), 0);
    }

    private static void ofProcedureCalled() {
        Check.about("promise 6: how often it was CALLED in the latest run");
        Tower x = new Tower();
        int p = printing(x, 1);
        int q = printing(x, 2);
        int used = x.node(USING, p, x.node(CALL, 0, p, 0), p);
        x.body(0, used);
        Check.same("ahead of all runs", x.ofProcedure(p, 5), 0);
        Check.same("MAIN ahead of all runs", x.ofProcedure(0, 5), 0);
        x.run();
        Check.same("by CALL, and as one OPENS and CLOSES", x.ofProcedure(p, 5), 3);
        Check.same("MAIN", x.ofProcedure(0, 5), 1);
        Check.same("one that is not CALLED", x.ofProcedure(q, 5), 0);
        x.wouldRun(100, 10, 0);
        Check.same("behind wouldRun()", x.ofProcedure(p, 5), 3);
        x.limits(100, 1);
        x.run();
        Check.same("with an OVERFLOW in place of it", x.ofProcedure(p, 5), 0);
        Check.same("MAIN, in the latest run alone", x.ofProcedure(0, 5), 1);
        Check.same("a PROCEDURE that was told behind the run", x.ofProcedure(x.procedure(0), 5), 0);
    }
}
