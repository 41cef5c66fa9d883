/** The promises of the document, by their numbers, each with what is ordinary, its edges, and what is wrong. */
public final class PromisesTest extends Tests {
    private PromisesTest() {
    }

    public static void main(String[] args) {
        newObject();
        kind();
        ofKind();
        procedureAndTell();
        ofProcedure();
        nodeByNode();
        nodeParts();
        nodeLimits();
        body();
        ofNodeCan();
        ofNodeNeverEnds();
        ofNodeRest();
        faultOrder();
        faultsOfCatches();
        faultsOfPlaces();
        faultsUntold();
        faultTooLong();
        prune();
        codeOfSingles();
        codeOfChoices();
        codeOfWaysOut();
        codeOfCatches();
        codeOfUsing();
        rowsAndGaps();
        codeAndRowWrong();
        limits();
        runAndOfRun();
        runNumbers();
        runCutOff();
        runOverflow();
        runWays();
        runUsing();
        runSlots();
        kept();
        held();
        meanPrinted();
        many();
        wouldRun();
        catcher();
        faultsWith();
        digest();
        askedAtOnce();
        partsWithNumberNought();
        runGives();
        runSuppressesMany();
        Check.end();
    }

    // ---- 1

    private static void newObject() {
        Check.about("promise 1");
        Tower x = new Tower();
        int[] many = {5, 1, 0, 0, 1, 0, 0, 800, 10, 0};
        for (int what = 0; what <= 9; what++) {
            Check.same("many(" + what + ")", x.many(what), many[what]);
        }
        int[] ofMain = {0, NONE, 0, 0, 0, 0};
        for (int what = 0; what <= 5; what++) {
            Check.same("ofProcedure(0, " + what + ")", x.ofProcedure(0, what), ofMain[what]);
        }
        faults(x, at(10, 0, NONE, NONE));
    }

    // ---- 2, 3

    private static void kind() {
        Check.about("promise 2");
        Tower x = new Tower();
        Check.outOfBounds("kind(5)", () -> x.kind(5, true));
        Check.outOfBounds("kind(-1)", () -> x.kind(NONE, true));
        Check.outOfBounds("kind(MIN)", () -> x.kind(MIN, true));
        for (int k = 5; k <= 12; k++) {
            Check.same("kind(" + (k - 1) + ")", x.kind(k - 1, k == 6), k);
        }
        Check.illegalState("kind(0) as there are 13", () -> x.kind(0, false));
        Check.outOfBounds("kind(13) as there are 13", () -> x.kind(13, false));
        Check.same("many(0)", x.many(0), 13);
        Check.same("ofKind(5, 1)", x.ofKind(5, 1), 0);
        Check.same("ofKind(6, 1)", x.ofKind(6, 1), 1);
        Check.same("ofKind(12, 1)", x.ofKind(12, 1), 1);
    }

    private static void ofKind() {
        Check.about("promise 3");
        Tower x = new Tower();
        int[][] due = {{NONE, 0, 31, 0, 0}, {0, 0, 2, 0, 0}, {0, 0, 4, 0, 0}, {0, 0, 8, 0, 0}, {0, 0, 16, 0, 0}};
        for (int kind = 0; kind < 5; kind++) {
            for (int what = 0; what < 5; what++) {
                Check.same("ofKind(" + kind + ", " + what + ")", x.ofKind(kind, what), due[kind][what]);
            }
        }
        x.kind(3, true);
        x.kind(5, false);
        x.kind(3, false);
        Check.same("ofKind(3, 2)", x.ofKind(3, 2), 8 + 32 + 64 + 128);
        Check.same("ofKind(5, 2)", x.ofKind(5, 2), 32 + 64);
        Check.same("ofKind(0, 2)", x.ofKind(0, 2), 255);
        Check.same("ofKind(6, 0)", x.ofKind(6, 0), 5);
        Check.same("ofKind(6, 1)", x.ofKind(6, 1), 1);
        Check.same("ofKind(7, 1)", x.ofKind(7, 1), 0);
        int thrown = x.node(TRY, NONE, x.node(THROW, 3, 0, 0), x.node(CATCH, 3, print(x, 1), NONE));
        Check.same("ofKind(3, 3) ahead of body", x.ofKind(3, 3), 0);
        x.body(0, thrown);
        x.node(CATCH, 3, print(x, 1), NONE);
        Check.same("ofKind(3, 3)", x.ofKind(3, 3), 1);
        Check.same("ofKind(0, 3)", x.ofKind(0, 3), 0);
        x.run();
        Check.same("ofKind(3, 4)", x.ofKind(3, 4), 1);
        Check.same("ofKind(0, 4)", x.ofKind(0, 4), 0);
        Check.outOfBounds("ofKind(8, 0)", () -> x.ofKind(8, 0));
        Check.outOfBounds("ofKind(-1, 9)", () -> x.ofKind(NONE, 9));
        Check.illegalArgument("ofKind(0, 5)", () -> x.ofKind(0, 5));
        Check.illegalArgument("ofKind(0, -1)", () -> x.ofKind(0, NONE));
    }

    // ---- 4 to 6

    private static void procedureAndTell() {
        Check.about("promises 4 and 5");
        Tower x = new Tower();
        Check.illegalArgument("procedure(-1)", () -> x.procedure(NONE));
        Check.illegalArgument("procedure(MIN)", () -> x.procedure(MIN));
        Check.illegalArgument("procedure(32)", () -> x.procedure(32));
        Check.illegalArgument("procedure(MAX)", () -> x.procedure(MAX));
        Check.same("procedure(31)", x.procedure(31), 1);
        x.kind(0, true);
        Check.same("procedure(32)", x.procedure(32), 2);
        for (int p = 3; p <= 7; p++) {
            Check.same("procedure(0)", x.procedure(0), p);
        }
        Check.illegalState("procedure(0) as there are 8", () -> x.procedure(0));
        Check.illegalArgument("procedure(64) as there are 8", () -> x.procedure(64));
        Check.same("tell(1, 33)", x.tell(1, 33), 31);
        Check.same("tell(1, 0)", x.tell(1, 0), 33);
        Check.same("tell(0, 63)", x.tell(0, 63), 0);
        Check.same("ofProcedure(0, 0)", x.ofProcedure(0, 0), 63);
        Check.outOfBounds("tell(8, -1)", () -> x.tell(8, NONE));
        Check.outOfBounds("tell(-1, 0)", () -> x.tell(NONE, 0));
        Check.illegalArgument("tell(0, 64)", () -> x.tell(0, 64));
        Check.illegalArgument("tell(0, -1)", () -> x.tell(0, NONE));
        Check.same("ofProcedure(0, 0) behind what is wrong", x.ofProcedure(0, 0), 63);
        Check.same("ofProcedure(2, 1)", x.ofProcedure(2, 1), NONE);
    }

    private static void ofProcedure() {
        Check.about("promise 6");
        Tower x = new Tower();
        int called = throwing(x, ZERO, 4);
        int tried = x.node(TRY, NONE, x.node(CALL, 0, called, 0), x.node(CATCH, RING, print(x, 0), NONE));
        x.body(0, tried);
        int[] due = {0, tried, 8, 6, 1, 0};
        for (int what = 0; what <= 5; what++) {
            Check.same("ofProcedure(0, " + what + ")", x.ofProcedure(0, what), due[what]);
        }
        x.run();
        Check.same("ofProcedure(0, 5)", x.ofProcedure(0, 5), 1);
        Check.same("ofProcedure(1, 5)", x.ofProcedure(1, 5), 1);
        x.procedure(0);
        Check.same("ofProcedure(0, 3) with a FAULT", x.ofProcedure(0, 3), 0);
        Check.same("ofProcedure(0, 4) with a FAULT", x.ofProcedure(0, 4), 0);
        Check.same("ofProcedure(0, 2) with a FAULT", x.ofProcedure(0, 2), 8);
        Check.same("ofProcedure(2, 5)", x.ofProcedure(2, 5), 0);
        Check.outOfBounds("ofProcedure(3, 0)", () -> x.ofProcedure(3, 0));
        Check.outOfBounds("ofProcedure(-1, 6)", () -> x.ofProcedure(NONE, 6));
        Check.illegalArgument("ofProcedure(0, 6)", () -> x.ofProcedure(0, 6));
        Check.illegalArgument("ofProcedure(0, -1)", () -> x.ofProcedure(0, NONE));
    }

    // ---- 7

    private static void noNode(Tower x, int sort, int a, int b, int c) {
        int before = x.many(2);
        Check.illegalArgument("node(" + sort + ", " + a + ", " + b + ", " + c + ")", () -> x.node(sort, a, b, c));
        Check.same("many(2)", x.many(2), before);
    }

    /** What is not a part, sort by sort. */
    private static void nodeByNode() {
        Check.about("promise 7, what a NODE has");
        Tower x = new Tower();
        noNode(x, NONE, 0, 0, 0);
        noNode(x, 19, 0, 0, 0);
        noNode(x, MIN, 0, 0, 0);
        int[] operands = {-99, 99, 100, 109, 0};
        int[] noOperands = {-100, 110, MIN, MAX};
        for (int sort = SET; sort <= PRINT; sort++) {
            int a = sort == PRINT ? 0 : 9;
            for (int operand : operands) {
                Check.same("node", x.node(sort, a, operand, 0), x.many(2) - 1);
            }
            for (int operand : noOperands) {
                noNode(x, sort, a, operand, 0);
            }
            noNode(x, sort, a, 0, 1);
            noNode(x, sort, a, 0, NONE);
            noNode(x, sort, sort == PRINT ? 1 : 10, 0, 0);
            noNode(x, sort, NONE, 0, 0);
        }
        for (int sort : new int[] {BREAK, AGAIN}) {
            noNode(x, sort, 1, 0, 0);
            noNode(x, sort, 0, NONE, 0);
            noNode(x, sort, 0, 0, 1);
            x.node(sort, 0, 0, 0);
        }
        noNode(x, RETURN, 1, 0, 0);
        noNode(x, RETURN, 0, 110, 0);
        noNode(x, RETURN, 0, 0, 1);
        x.node(RETURN, 0, -99, 0);
        noNode(x, CALL, 10, 0, 0);
        noNode(x, CALL, 0, 1, 0);
        noNode(x, CALL, 0, NONE, 0);
        noNode(x, CALL, 0, 0, 1);
        x.node(CALL, 9, 0, 0);
        for (int sort : new int[] {THROW, WRAP}) {
            noNode(x, sort, 5, 0, 0);
            noNode(x, sort, NONE, 0, 0);
            noNode(x, sort, 4, -100, 0);
            noNode(x, sort, 4, 0, 1);
            x.node(sort, 4, 109, 0);
        }
        for (int sort : new int[] {KEEP, LINK, THROWN}) {
            noNode(x, sort, 4, 0, 0);
            noNode(x, sort, NONE, 0, 0);
            noNode(x, sort, 3, 1, 0);
            noNode(x, sort, 3, 0, 1);
            x.node(sort, 3, 0, 0);
        }
    }

    private static void nodeParts() {
        Check.about("promise 7, parts");
        Tower x = new Tower();
        int p = print(x, 0);
        int q = print(x, 1);
        int r = print(x, 2);
        int caught = x.node(CATCH, ROOT, print(x, 3), NONE);
        noNode(x, SEQ, 0, p, p);
        noNode(x, SEQ, 1, p, q);
        noNode(x, SEQ, 0, p, NONE);
        noNode(x, SEQ, 0, NONE, p);
        noNode(x, SEQ, 0, p, x.many(2));
        noNode(x, SEQ, 0, p, caught);
        noNode(x, SEQ, 0, caught, p);
        noNode(x, IF, 110, p, q);
        noNode(x, IF, 0, p, p);
        noNode(x, IF, 0, NONE, p);
        noNode(x, IF, 0, caught, NONE);
        noNode(x, IF, 0, p, caught);
        noNode(x, IF, 0, p, -2);
        noNode(x, LOOP, 10, p, 0);
        noNode(x, LOOP, 0, caught, 0);
        noNode(x, LOOP, 0, p, 1);
        noNode(x, LOOP, 0, NONE, 0);
        noNode(x, TRY, NONE, p, NONE);
        noNode(x, TRY, p, p, NONE);
        noNode(x, TRY, caught, p, NONE);
        noNode(x, TRY, NONE, p, q);
        noNode(x, TRY, NONE, caught, NONE);
        noNode(x, TRY, NONE, NONE, caught);
        noNode(x, TRY, -2, p, caught);
        noNode(x, TRY, q, p, -2);
        noNode(x, CATCH, 5, p, NONE);
        noNode(x, CATCH, 0, NONE, NONE);
        noNode(x, CATCH, 0, caught, NONE);
        noNode(x, CATCH, 0, p, q);
        noNode(x, CATCH, 0, p, 0);
        noNode(x, USING, NONE, p, NONE);
        noNode(x, USING, 1, p, NONE);
        noNode(x, USING, 0, p, 1);
        noNode(x, USING, -2, p, 0);
        noNode(x, USING, 0, NONE, NONE);
        noNode(x, USING, 0, caught, NONE);
        int next = x.node(CATCH, ZERO, p, caught);
        noNode(x, SEQ, 0, p, q);
        noNode(x, TRY, NONE, q, caught);
        int tried = x.node(TRY, r, q, next);
        noNode(x, LOOP, 0, q, 0);
        noNode(x, LOOP, 0, r, 0);
        noNode(x, TRY, NONE, tried, next);
        x.body(0, tried);
        noNode(x, LOOP, 0, tried, 0);
        x.body(0, print(x, 9));
        Check.same("a BODY before is free", x.node(LOOP, 0, tried, 0), x.many(2) - 1);
    }

    private static void nodeLimits() {
        Check.about("promise 7, 90 NODES");
        Tower x = new Tower();
        for (int k = 0; k < 90; k++) {
            Check.same("node", print(x, k), k);
        }
        Check.illegalState("node as there are 90", () -> x.node(PRINT, 0, 0, 0));
        Check.illegalState("LOOP as there are 90", () -> x.node(LOOP, 0, 89, 0));
        Check.illegalArgument("no node as there are 90", () -> x.node(PRINT, 1, 0, 0));
        Check.same("node 89 is no part", x.body(0, 89), NONE);
    }

    // ---- 8

    private static void body() {
        Check.about("promise 8");
        Tower x = new Tower();
        int p = print(x, 1);
        int q = print(x, 2);
        int caught = x.node(CATCH, 0, print(x, 3), NONE);
        x.procedure(0);
        Check.outOfBounds("body(2, 0)", () -> x.body(2, p));
        Check.outOfBounds("body(-1, 0)", () -> x.body(NONE, p));
        Check.outOfBounds("body(0, 4)", () -> x.body(0, 4));
        Check.outOfBounds("body(0, -1)", () -> x.body(0, NONE));
        Check.illegalArgument("body of a CATCH", () -> x.body(0, caught));
        Check.illegalState("body of a part", () -> x.body(0, caught - 1));
        Check.same("body", x.body(0, p), NONE);
        Check.illegalState("body again", () -> x.body(0, p));
        Check.illegalState("body of another", () -> x.body(1, p));
        Check.same("body", x.body(0, q), p);
        Check.same("ofNode(p, 4)", x.ofNode(p, 4), NONE);
        Check.same("body", x.body(1, p), NONE);
        Check.same("ofProcedure(1, 1)", x.ofProcedure(1, 1), p);
        Check.same("ofProcedure(0, 1)", x.ofProcedure(0, 1), q);
        x.node(TRY, NONE, print(x, 4), caught);
        Check.illegalArgument("body of a CATCH that is a part", () -> x.body(0, caught));
    }

    // ---- 9

    private static void ofNodeCan() {
        Check.about("promise 9, what it CAN throw");
        Tower x = new Tower();
        x.kind(ZERO, true);
        int told = x.procedure(1 << RING | 1 << EMPTY);
        int other = x.procedure(1 << OVERFLOW);
        int[] nothing = {x.node(DIV, 0, 0, 0), x.node(THROWN, 0, 0, 0), x.node(RETURN, 0, 0, 0), x.node(LINK, 0, 0, 0),
                x.node(AGAIN, 0, 0, 0), x.node(KEEP, 0, 0, 0), x.node(BREAK, 0, 0, 0)};
        for (int node : nothing) {
            Check.same("ofNode(" + node + ", 5)", x.ofNode(node, 5), 0);
        }
        int again = x.node(AGAIN, 0, 0, 0);
        int call = x.node(CALL, 0, told, 0);
        Check.same("CALL", x.ofNode(call, 5), 4 + 16);
        int both = x.node(SEQ, 0, call, x.node(THROW, 5, 0, 0));
        Check.same("SEQ", x.ofNode(both, 5), 4 + 16 + 32);
        int caught = x.node(CATCH, ZERO, again, NONE);
        Check.same("AGAIN", x.ofNode(again, 5), 8);
        Check.same("CATCH", x.ofNode(caught, 5), 8);
        int last = x.node(SET, 0, 0, 0);
        int tried = x.node(TRY, last, both, caught);
        Check.same("TRY", x.ofNode(tried, 5), 4 + 16 + 8);
        int used = x.node(USING, other, tried, told);
        Check.same("USING", x.ofNode(used, 5), 4 + 16 + 8 + 2);
        int choice = x.node(IF, 0, used, x.node(WRAP, ROOT, 0, 0));
        Check.same("IF", x.ofNode(choice, 5), 31);
        int looped = x.node(LOOP, 0, choice, 0);
        Check.same("LOOP", x.ofNode(looped, 5), 31);
        int never = x.node(TRY, x.node(THROW, RING, 0, 0), looped, NONE);
        Check.same("TRY with a FINALLY that NEVER ENDS", x.ofNode(never, 5), 4);
        x.tell(told, 2);
        Check.same("CALL as it TELLS another set", x.ofNode(call, 5), 2);
    }

    private static void ofNodeNeverEnds() {
        Check.about("promise 9, NEVER ENDS");
        Tower x = new Tower();
        int[] sorts = {BREAK, RETURN, THROW, AGAIN, WRAP, THROWN};
        for (int sort : sorts) {
            Check.same("of sort " + sort, x.ofNode(x.node(sort, 0, 0, 0), 6), 1);
        }
        int[] others = {SET, ADD, DIV, PRINT, CALL, KEEP, LINK};
        for (int sort : others) {
            Check.same("of sort " + sort, x.ofNode(x.node(sort, 0, 0, 0), 6), 0);
        }
        Check.same("SEQ b", x.ofNode(x.node(SEQ, 0, x.node(BREAK, 0, 0, 0), print(x, 0)), 6), 1);
        Check.same("SEQ c", x.ofNode(x.node(SEQ, 0, print(x, 0), x.node(BREAK, 0, 0, 0)), 6), 1);
        Check.same("SEQ", x.ofNode(x.node(SEQ, 0, print(x, 0), print(x, 0)), 6), 0);
        Check.same("IF b", x.ofNode(x.node(IF, 0, x.node(BREAK, 0, 0, 0), NONE), 6), 0);
        Check.same("IF b c", x.ofNode(x.node(IF, 0, x.node(BREAK, 0, 0, 0), x.node(BREAK, 0, 0, 0)), 6), 1);
        Check.same("IF c", x.ofNode(x.node(IF, 0, print(x, 0), x.node(BREAK, 0, 0, 0)), 6), 0);
        Check.same("LOOP", x.ofNode(x.node(LOOP, 0, x.node(BREAK, 0, 0, 0), 0), 6), 0);
        Check.same("USING", x.ofNode(x.node(USING, 0, x.node(BREAK, 0, 0, 0), 0), 6), 1);
        int ends = x.node(CATCH, 0, print(x, 0), NONE);
        int not = x.node(CATCH, 1, x.node(BREAK, 0, 0, 0), ends);
        Check.same("CATCH", x.ofNode(ends, 6), 0);
        Check.same("CATCH", x.ofNode(not, 6), 1);
        Check.same("TRY one CATCH ends", x.ofNode(x.node(TRY, NONE, x.node(BREAK, 0, 0, 0), not), 6), 0);
        int all = x.node(CATCH, 1, x.node(BREAK, 0, 0, 0), x.node(CATCH, 0, x.node(BREAK, 0, 0, 0), NONE));
        Check.same("TRY none ends", x.ofNode(x.node(TRY, print(x, 0), x.node(BREAK, 0, 0, 0), all), 6), 1);
        Check.same("TRY b", x.ofNode(x.node(TRY, print(x, 0), x.node(BREAK, 0, 0, 0), NONE), 6), 1);
        Check.same("TRY FINALLY", x.ofNode(x.node(TRY, x.node(BREAK, 0, 0, 0), print(x, 0), NONE), 6), 1);
    }

    private static void ofNodeRest() {
        Check.about("promise 9, the rest");
        Tower x = new Tower();
        int set = x.node(SET, 3, 3, 0);
        int add = x.node(ADD, 3, -1, 0);
        int looped = x.node(LOOP, 3, add, 0);
        int all = x.node(SEQ, 0, set, looped);
        int alone = x.node(SET, 2, 109, 0);
        int[] due = {SET, 2, 109, 0, NONE, 0, 0, 0};
        for (int what = 0; what <= 7; what++) {
            Check.same("ofNode(alone, " + what + ")", x.ofNode(alone, what), due[what]);
        }
        Check.same("ofNode(all, 2)", x.ofNode(all, 2), set);
        Check.same("ofNode(all, 3)", x.ofNode(all, 3), looped);
        x.procedure(0);
        x.body(1, all);
        x.body(0, x.node(CALL, 0, 1, 0));
        Check.same("ofNode(add, 4)", x.ofNode(add, 4), 1);
        Check.same("ofNode(all, 4)", x.ofNode(all, 4), 1);
        Check.same("ofNode(add, 7) ahead of all runs", x.ofNode(add, 7), 0);
        x.run();
        Check.same("ofNode(add, 7)", x.ofNode(add, 7), 3);
        Check.same("ofNode(looped, 7)", x.ofNode(looped, 7), 1);
        Check.same("ofNode(all, 7)", x.ofNode(all, 7), 1);
        x.wouldRun(3, 10, 0);
        Check.same("ofNode(add, 7) behind wouldRun", x.ofNode(add, 7), 3);
        Check.same("ofNode of a later one", x.ofNode(print(x, 0), 7), 0);
        Check.outOfBounds("ofNode(7, 0)", () -> x.ofNode(7, 0));
        Check.outOfBounds("ofNode(-1, 8)", () -> x.ofNode(NONE, 8));
        Check.illegalArgument("ofNode(0, 8)", () -> x.ofNode(0, 8));
        Check.illegalArgument("ofNode(0, -1)", () -> x.ofNode(0, NONE));
    }

    // ---- 10

    private static void faultOrder() {
        Check.about("promise 10, their order");
        Tower x = new Tower();
        x.kind(ROOT, true);
        x.kind(5, false);
        x.procedure(0);
        x.procedure(0);
        int last = x.node(BREAK, 0, 0, 0);
        int again = x.node(AGAIN, 0, 0, 0);
        int both = x.node(SEQ, 0, x.node(RETURN, 0, 0, 0), again);
        int second = x.node(CATCH, 6, x.node(BREAK, 0, 0, 0), NONE);
        int first = x.node(CATCH, 5, x.node(BREAK, 0, 0, 0), second);
        x.body(0, x.node(TRY, last, both, first));
        int thrown = x.node(SEQ, 0, x.node(IF, 0, x.node(THROW, 6, 0, 0), NONE), x.node(THROW, 5, 0, 0));
        x.body(2, thrown);
        faults(x, at(4, 0, last, NONE), at(7, 0, both, NONE), at(5, 0, again, NONE), at(2, 0, first, NONE),
                at(4, 0, first - 1, NONE), at(1, 0, second, NONE), at(4, 0, second - 1, NONE), at(10, 1, NONE, NONE),
                at(3, 2, NONE, 5), at(3, 2, NONE, 6));
        Check.outOfBounds("fault(10, 0)", () -> x.fault(10, 0));
        Check.outOfBounds("fault(-1, 4)", () -> x.fault(NONE, 4));
        Check.outOfBounds("fault(10, 4)", () -> x.fault(10, 4));
        Check.illegalArgument("fault(0, 4)", () -> x.fault(0, 4));
        Check.illegalArgument("fault(0, -1)", () -> x.fault(0, NONE));
        Check.illegalState("run()", x::run);
    }

    private static void faultsOfCatches() {
        Check.about("promise 10, CATCHES");
        Tower x = new Tower();
        x.kind(ROOT, true);
        x.kind(5, false);
        x.kind(5, false);
        int third = x.node(CATCH, ROOT, print(x, 3), NONE);
        int second = x.node(CATCH, 5, print(x, 2), third);
        int first = x.node(CATCH, 6, print(x, 1), second);
        x.body(0, x.node(TRY, NONE, x.node(THROW, 6, 0, 0), first));
        // the second one is idle only if nothing of b is at or below it, even if the first one catches all that
        faults(x);
        int same = x.node(CATCH, 7, print(x, 2), x.node(CATCH, 7, print(x, 1), NONE));
        x.body(0, x.node(TRY, NONE, x.node(THROW, 5, 0, 0), same));
        faults(x, at(2, 0, same, NONE), at(1, 0, same - 1, NONE), at(3, 0, NONE, 5));
        x.tell(0, 1);
        faults(x, at(2, 0, same, NONE), at(1, 0, same - 1, NONE));
        int behind = x.node(CATCH, ZERO, print(x, 2), NONE);
        x.body(0, x.node(TRY, NONE, print(x, 0), x.node(CATCH, ROOT, print(x, 1), behind)));
        faults(x, at(1, 0, behind, NONE));
    }

    private static void faultsOfPlaces() {
        Check.about("promise 10, BREAK and what is within a CATCH");
        Tower x = new Tower();
        int[] sorts = {AGAIN, WRAP, KEEP, LINK};
        for (int sort : sorts) {
            int inB = x.node(sort, 0, 0, 0);
            int inCatch = x.node(sort, 0, 0, 0);
            int inFinally = x.node(sort, 0, 0, 0);
            x.body(0, x.node(TRY, inFinally, inB, x.node(CATCH, ROOT, inCatch, NONE)));
            faults(x, at(5, 0, inFinally, NONE), at(5, 0, inB, NONE));
        }
        int keep = x.node(KEEP, 0, 0, 0);
        int deeper = x.node(TRY, keep, print(x, 0), NONE);
        x.body(0, x.node(TRY, NONE, print(x, 0), x.node(CATCH, ROOT, deeper, NONE)));
        faults(x);
        int nextOne = x.node(CATCH, ROOT, x.node(KEEP, 0, 0, 0), NONE);
        x.body(0, x.node(TRY, NONE, print(x, 0), x.node(CATCH, ZERO, print(x, 0), nextOne)));
        faults(x);
        int out = x.node(BREAK, 0, 0, 0);
        int in = x.node(BREAK, 0, 0, 0);
        int looped = x.node(LOOP, 0, x.node(TRY, in, print(x, 0), NONE), 0);
        x.body(0, x.node(SEQ, 0, looped, out));
        faults(x, at(4, 0, out, NONE));
    }

    private static void faultsUntold() {
        Check.about("promise 10, what is not TOLD");
        Tower x = new Tower();
        x.kind(ROOT, true);
        x.kind(5, false);
        int called = x.procedure(1 << 6 | 1 << ZERO);
        x.body(called, print(x, 0));
        x.body(0, x.node(CALL, 0, called, 0));
        faults(x, at(3, 0, NONE, 6));
        x.tell(0, 1 << 5);
        faults(x);
        x.tell(0, 1 << 6);
        faults(x);
        x.tell(0, 1 << ROOT);
        faults(x);
        x.tell(called, 1 << 5);
        x.tell(0, 1 << 6);
        faults(x, at(3, 0, NONE, 5));
    }

    private static void faultTooLong() {
        Check.about("promise 10, too long");
        Tower x = new Tower();
        int[] parts = new int[13];
        for (int k = 0; k < 5; k++) {
            parts[k] = doubled(x, 5 - k);
        }
        for (int k = 5; k < 13; k++) {
            parts[k] = print(x, k);
        }
        int all = seq(x, parts);
        x.body(0, all);
        faults(x);
        Check.same("ofProcedure(0, 3)", x.ofProcedure(0, 3), 300);
        Check.same("code(0, 299, 0)", x.code(0, 299, 0), 8);
        Check.same("run()", x.run(), 0);
        x.body(0, print(x, 0));
        x.body(0, x.node(SEQ, 0, print(x, 0), all));
        faults(x, at(8, 0, NONE, NONE));
        Check.same("ofProcedure(0, 3)", x.ofProcedure(0, 3), 0);
        Check.same("many(5)", x.many(5), 0);
        Check.same("many(6)", x.many(6), 0);
        Check.outOfBounds("code(0, 0, 0)", () -> x.code(0, 0, 0));
        Check.outOfBounds("row(0, 0, 0)", () -> x.row(0, 0, 0));
        Check.illegalState("run()", x::run);
        int before = x.procedure(0);
        faults(x, at(10, before, NONE, NONE));
        x.body(before, doubled(x, 6));
        faults(x, at(8, 0, NONE, NONE), at(8, before, NONE, NONE));
    }

    // ---- 11 to 13

    private static void prune() {
        Check.about("promise 11");
        Tower x = new Tower();
        int b = seq(x, print(x, 1), x.node(IF, 0, x.node(RETURN, 0, 1, 0), NONE), x.node(DIV, 0, 1, 0));
        x.body(0, x.node(TRY, NONE, b, x.node(CATCH, ROOT, print(x, 2), NONE)));
        int[] first = at(0, 3, 6, 0);
        int[] second = at(4, 5, 6, 0);
        rows(x, 0, first, second);
        Check.same("prune(true)", x.prune(true), false);
        rows(x, 0, second);
        Check.same("many(9)", x.many(9), 1);
        Check.same("prune(true)", x.prune(true), true);
        Check.same("prune(false)", x.prune(false), true);
        Check.same("prune(false)", x.prune(false), false);
        rows(x, 0, first, second);
        Check.same("many(9)", x.many(9), 0);
        pruneByInstruction();
    }

    /** Each instruction alone in a piece: it stays if it can throw. */
    private static void pruneByInstruction() {
        int[][] nodes = {{SET, 0, 0, 0}, {ADD, 0, 0, 0}, {DIV, 0, 1, 1}, {PRINT, 0, 0, 0}, {CALL, 0, 0, 1},
                {THROW, 0, 0, 1}, {THROWN, 0, 0, 1}, {AGAIN, 0, 0, 1}, {WRAP, 0, 0, 1}, {KEEP, 0, 0, 0}, {LINK, 0, 0, 1}};
        for (int[] one : nodes) {
            Tower x = new Tower();
            int node = x.node(one[0], one[1], one[2], 0);
            int inner = x.node(TRY, NONE, node, x.node(CATCH, ROOT, print(x, 0), NONE));
            x.body(0, x.node(TRY, NONE, print(x, 0), x.node(CATCH, ROOT, inner, NONE)));
            x.prune(true);
            Check.same("ROWS around a " + one[0], x.ofProcedure(0, 4), one[3]);
        }
        Tower x = new Tower();
        int p = printing(x, 0);
        int opened = x.node(USING, p, print(x, 0), NONE);
        x.body(0, x.node(TRY, NONE, opened, x.node(CATCH, ROOT, print(x, 0), NONE)));
        x.prune(true);
        rows(x, 0, at(0, 2, 3, 0));
    }

    private static void codeOfSingles() {
        Check.about("promise 12, single instructions");
        Tower x = new Tower();
        int p = printing(x, 5);
        x.body(0, seq(x, x.node(SET, 1, -99, 0), x.node(ADD, 2, 103, 0), x.node(DIV, 3, 99, 0), print(x, 109),
                x.node(CALL, 4, p, 0), x.node(THROW, EMPTY, 102, 0)));
        code(x, 0, at(1, 1, -99, 0, 2), at(2, 2, 103, 0, 2), at(3, 3, 99, 0, 2), at(4, 109, 0, 0, 2), at(9, 4, p, 0, 2),
                at(10, EMPTY, 102, 0, 1), at(7, 0, 0, 0, 0), at(8, 0, 0, 0, 0));
        code(x, p, at(4, 5, 0, 0, 1), at(7, 0, 0, 0, 0), at(8, 0, 0, 0, 0));
        x.body(0, x.node(SEQ, 0, print(x, 1), x.node(THROWN, 3, 0, 0)));
        code(x, 0, at(4, 1, 0, 0, 2), at(16, 3, 0, 0, 1), at(7, 0, 0, 0, 0), at(8, 0, 0, 0, 0));
        x.body(0, x.node(RETURN, 0, 107, 0));
        code(x, 0, at(7, 107, 0, 0, 1), at(8, 0, 0, 0, 0), at(7, 0, 0, 0, 0), at(8, 0, 0, 0, 0));
    }

    private static void codeOfChoices() {
        Check.about("promise 12, IF and LOOP");
        Tower x = new Tower();
        x.body(0, x.node(IF, 100, print(x, 1), print(x, 2)));
        code(x, 0, at(5, 3, 100, 0, 1), at(4, 1, 0, 0, 1), at(6, 4, 0, 0, 0), at(4, 2, 0, 0, 1), at(7, 0, 0, 0, 0),
                at(8, 0, 0, 0, 0));
        x.body(0, x.node(IF, -7, print(x, 1), NONE));
        code(x, 0, at(5, 2, -7, 0, 1), at(4, 1, 0, 0, 1), at(7, 0, 0, 0, 0), at(8, 0, 0, 0, 0));
        x.body(0, x.node(LOOP, 9, x.node(IF, 1, x.node(BREAK, 0, 0, 0), NONE), 0));
        code(x, 0, at(20, 0, 0, 0, 1), at(5, 5, 109, 0, 0), at(5, 4, 1, 0, 1), at(6, 5, 0, 0, 1), at(6, 1, 0, 0, 0),
                at(7, 0, 0, 0, 0), at(8, 0, 0, 0, 0));
    }

    private static void codeOfWaysOut() {
        Check.about("promise 12, the WAY OUT");
        Tower x = new Tower();
        int out = x.node(TRY, print(x, 7), x.node(BREAK, 0, 0, 0), NONE);
        x.body(0, x.node(LOOP, 0, out, 0));
        code(x, 0, at(20, 0, 0, 0, 1), at(5, 10, 100, 0, 0), at(4, 7, 0, 0, 3), at(6, 10, 0, 0, 0), at(4, 7, 0, 0, 1),
                at(6, 9, 0, 0, 0), at(11, 0, 0, 0, 0), at(4, 7, 0, 0, 1), at(12, 0, 0, 0, 0), at(6, 1, 0, 0, 0),
                at(7, 0, 0, 0, 0), at(8, 0, 0, 0, 0));
        rows(x, 0);
        x.body(0, x.node(TRY, x.node(RETURN, 0, 6, 0), x.node(RETURN, 0, 5, 0), NONE));
        code(x, 0, at(7, 5, 0, 0, 2), at(7, 6, 1, 0, 1), at(8, 1, 0, 0, 0), at(8, 0, 0, 0, 0), at(7, 6, 1, 0, 1),
                at(8, 1, 0, 0, 0), at(6, 11, 0, 0, 0), at(11, 0, 0, 0, 0), at(7, 6, 1, 0, 1), at(8, 1, 0, 0, 0),
                at(12, 0, 0, 0, 0), at(7, 0, 0, 0, 0), at(8, 0, 0, 0, 0));
        rows(x, 0, at(0, 1, 7, NONE));
        x.run();
        Check.same("ofRun(1)", x.ofRun(1), 6);
    }

    private static void codeOfCatches() {
        Check.about("promise 12, CATCHES within each other");
        Tower x = new Tower();
        int handled = seq(x, x.node(KEEP, 1, 0, 0), x.node(LINK, 0, 0, 0), x.node(WRAP, RING, 9, 0));
        int inner = x.node(TRY, print(x, 1), x.node(AGAIN, 0, 0, 0), x.node(CATCH, ROOT, handled, NONE));
        x.body(0, x.node(TRY, NONE, x.node(THROW, ROOT, 5, 0), x.node(CATCH, ROOT, inner, NONE)));
        code(x, 0, at(10, 0, 5, 0, 2), at(6, 15, 0, 0, 0), at(11, 0, 0, 0, 1), at(12, 0, 0, 0, 2), at(4, 1, 0, 0, 1),
                at(6, 15, 0, 0, 0), at(11, 1, 0, 0, 1), at(14, 1, 1, 0, 2), at(15, 0, 1, 0, 2), at(13, 2, 9, 1, 1),
                at(4, 1, 0, 0, 1), at(6, 15, 0, 0, 0), at(11, 1, 0, 0, 0), at(4, 1, 0, 0, 1), at(12, 1, 0, 0, 0),
                at(7, 0, 0, 0, 0), at(8, 0, 0, 0, 0));
        rows(x, 0, at(3, 4, 6, 0), at(3, 4, 12, NONE), at(6, 10, 12, NONE), at(0, 1, 2, 0));
        int last = x.node(TRY, NONE, x.node(THROW, ROOT, 2, 0), x.node(CATCH, ROOT, print(x, 8), NONE));
        int left = x.node(CATCH, ROOT, x.node(RETURN, 0, 4, 0), NONE);
        x.body(0, x.node(TRY, last, x.node(THROW, ROOT, 1, 0), left));
        code(x, 0, at(10, 0, 1, 0, 2), at(10, 0, 2, 0, 2), at(6, 5, 0, 0, 0), at(11, 0, 0, 0, 1), at(4, 8, 0, 0, 1),
                at(6, 24, 0, 0, 0), at(11, 0, 0, 0, 1), at(7, 4, 0, 0, 1), at(10, 0, 2, 0, 2), at(6, 12, 0, 0, 0),
                at(11, 1, 0, 0, 1), at(4, 8, 0, 0, 1), at(8, 0, 0, 0, 0), at(10, 0, 2, 0, 2), at(6, 17, 0, 0, 0),
                at(11, 0, 0, 0, 1), at(4, 8, 0, 0, 1), at(6, 24, 0, 0, 0), at(11, 0, 0, 0, 0), at(10, 0, 2, 0, 2),
                at(6, 23, 0, 0, 0), at(11, 1, 0, 0, 1), at(4, 8, 0, 0, 1), at(12, 0, 0, 0, 0), at(7, 0, 0, 0, 0),
                at(8, 0, 0, 0, 0));
        rows(x, 0, at(1, 2, 3, 0), at(8, 9, 10, 0), at(13, 14, 15, 0), at(19, 20, 21, 0), at(0, 1, 6, 0),
                at(0, 1, 18, NONE), at(6, 8, 18, NONE));
        x.run();
        ofRun(x, 0, 4, NONE, 8, 1, 1, 2, 1, 0);
    }

    private static void codeOfUsing() {
        Check.about("promises 12 and 13, USING");
        Tower x = new Tower();
        int opens = printing(x, 1);
        int closes = printing(x, 2);
        x.body(0, x.node(USING, opens, print(x, 3), closes));
        code(x, 0, at(18, opens, 0, 0, 1), at(4, 3, 0, 0, 1), at(17, closes, 0, 0, 0), at(6, 8, 0, 0, 0),
                at(11, 0, 0, 0, 0), at(17, closes, 0, 0, 0), at(12, 0, 0, 0, 0), at(19, 0, 0, 0, 0), at(7, 0, 0, 0, 0),
                at(8, 0, 0, 0, 0));
        rows(x, 0, at(1, 2, 4, NONE), at(5, 6, 7, NONE));
        x.prune(true);
        rows(x, 0, at(5, 6, 7, NONE));
        x.prune(false);
        x.body(0, x.node(USING, opens, print(x, 3), NONE));
        code(x, 0, at(18, opens, 0, 0, 1), at(4, 3, 0, 0, 1), at(7, 0, 0, 0, 0), at(8, 0, 0, 0, 0));
        rows(x, 0);
        int using = x.node(USING, NONE, x.node(RETURN, 0, 3, 0), closes);
        x.body(0, x.node(TRY, NONE, print(x, 0), x.node(CATCH, ROOT, using, NONE)));
        code(x, 0, at(4, 0, 0, 0, 2), at(6, 12, 0, 0, 0), at(11, 0, 0, 0, 1), at(7, 3, 0, 0, 2), at(17, closes, 0, 0, 0),
                at(8, 0, 0, 0, 0), at(17, closes, 0, 0, 0), at(6, 12, 0, 0, 0), at(11, 1, 0, 0, 0),
                at(17, closes, 0, 0, 0), at(12, 1, 0, 0, 0), at(19, 1, 0, 0, 0), at(7, 0, 0, 0, 0), at(8, 0, 0, 0, 0));
        rows(x, 0, at(3, 4, 8, NONE), at(9, 10, 11, NONE), at(0, 1, 2, 0));
    }

    private static void rowsAndGaps() {
        Check.about("promise 13, GAPS");
        Tower x = new Tower();
        int choice = x.node(IF, 100, x.node(RETURN, 0, 1, 0), print(x, 2));
        x.body(0, x.node(TRY, NONE, choice, x.node(CATCH, ROOT, print(x, 3), NONE)));
        code(x, 0, at(5, 4, 100, 0, 2), at(7, 1, 0, 0, 1), at(8, 0, 0, 0, 0), at(6, 5, 0, 0, 0), at(4, 2, 0, 0, 1),
                at(6, 8, 0, 0, 0), at(11, 0, 0, 0, 1), at(4, 3, 0, 0, 1), at(7, 0, 0, 0, 0), at(8, 0, 0, 0, 0));
        rows(x, 0, at(0, 2, 6, 0), at(3, 5, 6, 0));
        // the FINALLY of the inner TRY on the WAY OUT is in the GAP of the inner one alone
        int inner = x.node(TRY, print(x, 1), x.node(RETURN, 0, 2, 0), NONE);
        int caught = x.node(CATCH, ZERO, print(x, 4), x.node(CATCH, RING, print(x, 5), NONE));
        x.body(0, x.node(TRY, print(x, 3), inner, caught));
        code(x, 0, at(7, 2, 0, 0, 3), at(4, 1, 0, 0, 1), at(4, 3, 0, 0, 1), at(8, 0, 0, 0, 0), at(4, 1, 0, 0, 1),
                at(6, 9, 0, 0, 0), at(11, 0, 0, 0, 0), at(4, 1, 0, 0, 1), at(12, 0, 0, 0, 0), at(4, 3, 0, 0, 1),
                at(6, 22, 0, 0, 0), at(11, 0, 0, 0, 1), at(4, 4, 0, 0, 1), at(4, 3, 0, 0, 1), at(6, 22, 0, 0, 0),
                at(11, 0, 0, 0, 1), at(4, 5, 0, 0, 1), at(4, 3, 0, 0, 1), at(6, 22, 0, 0, 0), at(11, 0, 0, 0, 0),
                at(4, 3, 0, 0, 1), at(12, 0, 0, 0, 0), at(7, 0, 0, 0, 0), at(8, 0, 0, 0, 0));
        rows(x, 0, at(0, 1, 6, NONE), at(0, 2, 11, ZERO), at(4, 9, 11, ZERO), at(0, 2, 15, RING), at(4, 9, 15, RING),
                at(0, 2, 19, NONE), at(4, 9, 19, NONE), at(11, 13, 19, NONE), at(15, 17, 19, NONE));
    }

    private static void codeAndRowWrong() {
        Check.about("promises 12 and 13, what is wrong");
        Tower x = new Tower();
        Check.outOfBounds("code with a FAULT", () -> x.code(0, 0, 9));
        Check.outOfBounds("row with a FAULT", () -> x.row(0, 0, 9));
        x.body(0, x.node(TRY, print(x, 1), print(x, 2), NONE));
        Check.same("ofProcedure(0, 3)", x.ofProcedure(0, 3), 8);
        Check.same("ofProcedure(0, 4)", x.ofProcedure(0, 4), 1);
        Check.outOfBounds("code(1, 0, 0)", () -> x.code(1, 0, 0));
        Check.outOfBounds("code(-1, 0, 0)", () -> x.code(NONE, 0, 0));
        Check.outOfBounds("code(0, 8, 0)", () -> x.code(0, 8, 0));
        Check.outOfBounds("code(0, -1, 5)", () -> x.code(0, NONE, 5));
        Check.illegalArgument("code(0, 7, 5)", () -> x.code(0, 7, 5));
        Check.illegalArgument("code(0, 7, -1)", () -> x.code(0, 7, NONE));
        Check.outOfBounds("row(1, 0, 0)", () -> x.row(1, 0, 0));
        Check.outOfBounds("row(-1, 0, 0)", () -> x.row(NONE, 0, 0));
        Check.outOfBounds("row(0, 1, 0)", () -> x.row(0, 1, 0));
        Check.outOfBounds("row(0, -1, 4)", () -> x.row(0, NONE, 4));
        Check.illegalArgument("row(0, 0, 4)", () -> x.row(0, 0, 4));
        Check.illegalArgument("row(0, 0, -1)", () -> x.row(0, 0, NONE));
    }

    // ---- 14 to 16

    private static void limits() {
        Check.about("promise 14");
        Tower x = new Tower();
        Check.same("limits(3000, 30)", x.limits(3000, 30), 800);
        Check.same("limits(1, 1)", x.limits(1, 1), 3000);
        Check.illegalArgument("limits(0, 1)", () -> x.limits(0, 1));
        Check.illegalArgument("limits(3001, 1)", () -> x.limits(3001, 1));
        Check.illegalArgument("limits(1, 0)", () -> x.limits(1, 0));
        Check.illegalArgument("limits(1, 31)", () -> x.limits(1, 31));
        Check.illegalArgument("limits(MIN, MIN)", () -> x.limits(MIN, MIN));
        Check.same("many(7)", x.many(7), 1);
        Check.same("many(8)", x.many(8), 1);
    }

    private static void runAndOfRun() {
        Check.about("promises 15 and 16");
        Tower x = new Tower();
        ofRun(x, 0, 0, 0, 0, 0, 0, 0, 0, 0, 0);
        Check.illegalState("run() without a BODY", x::run);
        Check.same("ofRun(9)", x.ofRun(9), 0);
        int p = printing(x, 5);
        x.body(0, seq(x, x.node(CALL, 0, p, 0), print(x, 6), x.node(RETURN, 0, -9, 0)));
        Check.same("run()", x.run(), 0);
        ofRun(x, 0, -9, NONE, 6, 2, 2, 0, 2, 0, 1);
        x.body(0, x.node(THROW, ROOT, 1, 0));
        Check.same("run()", x.run(), 1);
        ofRun(x, 1, 0, 0, 1, 0, 1, 1, 1, 0, 2);
        x.body(0, x.node(SEQ, 0, x.node(SET, 0, 1, 0), x.node(LOOP, 0, print(x, 1), 0)));
        Check.same("run()", x.run(), 2);
        ofRun(x, 2, 0, NONE, 800, 797, 1, 0, 1, 0, 3);
        x.wouldRun(10, 10, 0);
        Check.same("ofRun(9)", x.ofRun(9), 3);
        Check.illegalArgument("ofRun(10)", () -> x.ofRun(10));
        Check.illegalArgument("ofRun(-1)", () -> x.ofRun(NONE));
        x.procedure(0);
        Check.illegalState("run() with a FAULT", x::run);
        ofRun(x, 2, 0, NONE, 800, 797, 1, 0, 1, 0, 3);
    }

    private static void runNumbers() {
        Check.about("section 4, numbers");
        Tower x = new Tower();
        int doubling = seq(x, x.node(ADD, 1, -1, 0), x.node(ADD, 0, 100, 0));
        int body = seq(x, x.node(SET, 0, 99, 0), x.node(SET, 1, 25, 0), x.node(LOOP, 1, doubling, 0), print(x, 100),
                x.node(DIV, 0, 7, 0), print(x, 100), x.node(DIV, 0, -2, 0), print(x, 100));
        x.body(0, body);
        x.run();
        prints(x, -973078528, -139011218, 69505609);
        int again = seq(x, x.node(ADD, 1, -1, 0), x.node(ADD, 0, 100, 0));
        x.body(0, seq(x, x.node(SET, 0, 1, 0), x.node(SET, 1, 31, 0), x.node(LOOP, 1, again, 0), print(x, 100),
                x.node(DIV, 0, -1, 0), print(x, 100)));
        x.run();
        prints(x, MIN, MIN);
        x.body(0, seq(x, x.node(SET, 0, 7, 0), x.node(TRY, NONE, x.node(DIV, 0, 101, 0),
                x.node(CATCH, ZERO, print(x, 100), NONE)), x.node(IF, 0, print(x, 1), print(x, 2)),
                x.node(IF, 1, print(x, 3), print(x, 4))));
        x.run();
        prints(x, 7, 2, 3);
        exception(x, 0, ZERO, 0, NONE, 0, 1);
    }

    private static void runCutOff() {
        Check.about("section 4, STEPS");
        Tower x = new Tower();
        int last = print(x, 3);
        int thrown = x.node(THROW, ROOT, 1, 0);
        int caught = x.node(CATCH, ROOT, print(x, 2), NONE);
        int tried = x.node(TRY, last, thrown, caught);
        x.body(0, tried);
        for (int most = 1; most <= 6; most++) {
            x.limits(most, 1);
            Check.same("run() with " + most, x.run(), most >= 5 ? 0 : 2);
            Check.same("ofRun(3) with " + most, x.ofRun(3), Math.min(5, most));
            Check.same("ofRun(6) with " + most, x.ofRun(6), most >= 2 ? 1 : 0);
            Check.same("ofRun(4) with " + most, x.ofRun(4), Math.max(0, Math.min(2, most - 3)));
            Check.same("THROW", x.ofNode(thrown, 7), most >= 2 ? 1 : 0);
            Check.same("CATCH", x.ofNode(caught, 7), most >= 3 ? 1 : 0);
            Check.same("FINALLY", x.ofNode(last, 7), most >= 5 ? 1 : 0);
        }
    }

    private static void runOverflow() {
        Check.about("section 4, OVERFLOW");
        Tower x = new Tower();
        int p = x.procedure(0);
        int deeper = x.node(CALL, 1, p, 0);
        x.body(p, deeper);
        int first = x.node(CALL, 0, p, 0);
        x.body(0, first);
        Check.same("run()", x.run(), 1);
        ofRun(x, 1, 0, 0, 10, 0, 10, 1, 10, 0);
        exception(x, 0, OVERFLOW, 0, NONE, 0, 6);
        trace(x, 0, deeper, deeper, deeper, deeper, deeper, deeper);
        x.limits(800, 1);
        x.run();
        ofRun(x, 1, 0, 0, 1, 0, 1, 1, 1, 0);
        trace(x, 0, first);
        Check.same("ofProcedure(p, 5)", x.ofProcedure(p, 5), 0);
        x.limits(800, 3);
        int q = printing(x, 4);
        int caught = x.node(CATCH, OVERFLOW, x.node(CALL, 2, q, 0), NONE);
        x.body(0, x.node(TRY, NONE, x.node(CALL, 0, p, 0), caught));
        Check.same("run()", x.run(), 0);
        prints(x, 4);
        ofRun(x, 0, 0, NONE, 7, 1, 4, 1, 3, 0);
        int opening = x.node(USING, p, print(x, 5), q);
        x.body(0, opening);
        x.limits(800, 1);
        x.run();
        ofRun(x, 1, 0, 0, 1, 0, 1, 1, 1, 0);
        trace(x, 0, opening);
    }

    private static void runWays() {
        Check.about("section 4, ways through FINALLY");
        Tower x = new Tower();
        // RETURN reckons its number ahead of what is run on its way
        x.body(0, seq(x, x.node(SET, 0, 5, 0), x.node(TRY, x.node(SET, 0, 9, 0), x.node(RETURN, 0, 100, 0), NONE)));
        x.run();
        Check.same("ofRun(1)", x.ofRun(1), 5);
        Check.same("held(0)", x.held(0), 9);
        // a FINALLY that is left by BREAK gives up an EXCEPTION
        int gone = x.node(TRY, x.node(BREAK, 0, 0, 0), x.node(THROW, ROOT, 0, 0), NONE);
        x.body(0, seq(x, x.node(SET, 0, 1, 0), x.node(LOOP, 0, gone, 0), print(x, 1)));
        Check.same("run()", x.run(), 0);
        prints(x, 1);
        // a LOOP in a FINALLY on the way of a RETURN, with a RETURN of its own that is given up
        int own = x.node(TRY, x.node(BREAK, 0, 0, 0), x.node(RETURN, 0, 8, 0), NONE);
        int last = seq(x, x.node(SET, 0, 1, 0), x.node(LOOP, 0, own, 0));
        x.body(0, x.node(TRY, last, x.node(RETURN, 0, 7, 0), NONE));
        x.run();
        Check.same("ofRun(1)", x.ofRun(1), 7);
        // the first CATCH that fits; what it throws is for none of the same TRY, but for its FINALLY
        int second = x.node(CATCH, ROOT, print(x, 2), NONE);
        int first = x.node(CATCH, ZERO, x.node(WRAP, RING, 4, 0), second);
        int tried = x.node(TRY, print(x, 3), x.node(THROW, ZERO, 0, 0), first);
        x.body(0, x.node(TRY, NONE, tried, x.node(CATCH, RING, x.node(KEEP, 0, 0, 0), NONE)));
        Check.same("run()", x.run(), 0);
        prints(x, 3);
        exception(x, 1, RING, 4, 0, 0, 1);
        Check.same("held(10)", x.held(10), 1);
        x.body(0, x.node(TRY, x.node(THROW, ZERO, 1, 0), x.node(THROW, RING, 2, 0), NONE));
        Check.same("run()", x.run(), 1);
        Check.same("ofRun(2)", x.ofRun(2), 1);
    }

    private static void runUsing() {
        Check.about("section 4, USING");
        Tower x = new Tower();
        int opens = printing(x, 1);
        int closes = throwing(x, ZERO, 2);
        int used = x.node(USING, opens, x.node(THROW, RING, 3, 0), closes);
        int outer = x.node(USING, NONE, used, closes);
        x.body(0, outer);
        Check.same("run()", x.run(), 1);
        ofRun(x, 1, 0, 0, 6, 1, 4, 3, 2, 2);
        exception(x, 0, RING, 3, NONE, 2, 1);
        Check.same("suppressed(0, 0)", x.suppressed(0, 0), 1);
        Check.same("suppressed(0, 1)", x.suppressed(0, 1), 2);
        trace(x, 1, x.ofProcedure(closes, 1), used);
        trace(x, 2, x.ofProcedure(closes, 1), outer);
        Check.outOfBounds("suppressed(0, 2)", () -> x.suppressed(0, 2));
        Check.outOfBounds("suppressed(0, -1)", () -> x.suppressed(0, NONE));
        Check.outOfBounds("suppressed(3, 0)", () -> x.suppressed(3, 0));
        Check.outOfBounds("suppressed(-1, 0)", () -> x.suppressed(NONE, 0));
        Check.outOfBounds("trace(3, 0)", () -> x.trace(3, 0));
        Check.outOfBounds("trace(0, -1)", () -> x.trace(0, NONE));
        // closing throws as b comes to its end, or by RETURN: that goes on
        x.body(0, x.node(USING, NONE, x.node(RETURN, 0, 1, 0), closes));
        Check.same("run()", x.run(), 1);
        ofRun(x, 1, 0, 0, 3, 0, 2, 1, 2, 0);
        // the same one is not suppressed beneath itself
        int same = x.procedure(0);
        x.body(same, x.node(THROWN, 0, 0, 0));
        int kept = x.node(TRY, NONE, x.node(THROW, RING, 3, 0),
                x.node(CATCH, ROOT, x.node(SEQ, 0, x.node(KEEP, 0, 0, 0), x.node(AGAIN, 0, 0, 0)), NONE));
        x.body(0, x.node(USING, NONE, kept, same));
        Check.same("run()", x.run(), 1);
        Check.same("ofRun(2)", x.ofRun(2), 0);
        Check.same("ofRun(8)", x.ofRun(8), 0);
        Check.same("exception(0, 3)", x.exception(0, 3), 0);
        // what does not open is not closed
        x.body(0, x.node(USING, closes, print(x, 8), opens));
        Check.same("run()", x.run(), 1);
        ofRun(x, 1, 0, 0, 2, 0, 2, 1, 2, 0);
    }

    private static void runSlots() {
        Check.about("section 4, SLOTS");
        Tower x = new Tower();
        int thrown = x.node(THROWN, 2, 0, 0);
        x.body(0, thrown);
        Check.same("run()", x.run(), 1);
        exception(x, 0, EMPTY, 0, NONE, 0, 1);
        trace(x, 0, thrown);
        // LINK of a SLOT that holds none does nothing; of what it is itself: RING
        int own = seq(x, x.node(LINK, 0, 0, 0), x.node(KEEP, 0, 0, 0), x.node(LINK, 0, 0, 0));
        x.body(0, x.node(TRY, NONE, x.node(THROW, ROOT, 1, 0), x.node(CATCH, ROOT, own, NONE)));
        Check.same("run()", x.run(), 1);
        exception(x, 0, ROOT, 1, NONE, 0, 1);
        exception(x, 1, RING, 0, NONE, 0, 1);
        // the first becomes the CAUSE of the second, which then can't become that of the first
        int second = seq(x, x.node(LINK, 0, 0, 0), x.node(KEEP, 1, 0, 0), x.node(THROWN, 0, 0, 0));
        int inner = x.node(TRY, NONE, x.node(THROW, ROOT, 2, 0), x.node(CATCH, ROOT, second, NONE));
        int first = seq(x, x.node(KEEP, 0, 0, 0),
                x.node(TRY, NONE, inner, x.node(CATCH, ROOT, x.node(LINK, 1, 0, 0), NONE)));
        x.body(0, x.node(TRY, NONE, x.node(THROW, ROOT, 1, 0), x.node(CATCH, ROOT, first, NONE)));
        Check.same("run()", x.run(), 1);
        exception(x, 0, ROOT, 1, NONE, 0, 1);
        exception(x, 1, ROOT, 2, 0, 0, 1);
        exception(x, 2, RING, 0, NONE, 0, 1);
        Check.same("ofRun(2)", x.ofRun(2), 2);
        x.body(0, print(x, 0));
        x.run();
        Check.same("held(10) as a run begins", x.held(10), NONE);
    }

    // ---- 17 to 23

    private static void kept() {
        Check.about("promises 17, 18, 20");
        Tower x = new Tower();
        int print = print(x, 100);
        int tried = x.node(TRY, NONE, x.node(THROW, ROOT, 100, 0), x.node(CATCH, ROOT, print, NONE));
        int looped = x.node(LOOP, 0, x.node(SEQ, 0, x.node(ADD, 0, -1, 0), tried), 0);
        x.body(0, x.node(SEQ, 0, x.node(SET, 0, 50, 0), looped));
        Check.outOfBounds("printed ahead of all runs", () -> x.printed(0, 9));
        Check.outOfBounds("exception ahead of all runs", () -> x.exception(0, 9));
        Check.outOfBounds("suppressed ahead of all runs", () -> x.suppressed(0, 0));
        Check.outOfBounds("trace ahead of all runs", () -> x.trace(0, 0));
        x.run();
        ofRun(x, 0, 0, NONE, 303, 50, 1, 50, 1, 0, 1);
        for (int k = 0; k < 40; k++) {
            Check.same("printed(" + k + ", 0)", x.printed(k, 0), 49 - k);
            Check.same("printed(" + k + ", 1)", x.printed(k, 1), 9 + 6 * k);
            Check.same("printed(" + k + ", 2)", x.printed(k, 2), print);
            exception(x, k, ROOT, 49 - k, NONE, 0, 1);
        }
        Check.outOfBounds("printed(40, 3)", () -> x.printed(40, 3));
        Check.outOfBounds("printed(-1, 0)", () -> x.printed(NONE, 0));
        Check.illegalArgument("printed(39, 3)", () -> x.printed(39, 3));
        Check.illegalArgument("printed(39, -1)", () -> x.printed(39, NONE));
        Check.outOfBounds("exception(40, 5)", () -> x.exception(40, 5));
        Check.outOfBounds("exception(-1, 0)", () -> x.exception(NONE, 0));
        Check.illegalArgument("exception(39, 5)", () -> x.exception(39, 5));
        Check.illegalArgument("exception(39, -1)", () -> x.exception(39, NONE));
        Check.outOfBounds("trace(40, 0)", () -> x.trace(40, 0));
        Check.outOfBounds("suppressed(39, 0)", () -> x.suppressed(39, 0));
        Check.same("ofKind(0, 4)", x.ofKind(0, 4), 50);
        Check.same("meanPrinted()", x.meanPrinted(), 24.5);
        x.body(0, print(x, 1));
        x.run();
        Check.outOfBounds("printed(1, 0) of a later run", () -> x.printed(1, 0));
        Check.outOfBounds("exception(0, 0) of a later run", () -> x.exception(0, 0));
        Check.same("ofKind(0, 4)", x.ofKind(0, 4), 0);
    }

    private static void held() {
        Check.about("promise 21");
        Tower x = new Tower();
        for (int which = 0; which <= 13; which++) {
            Check.same("held(" + which + ")", x.held(which), which < 10 ? 0 : NONE);
        }
        int kept = x.node(SEQ, 0, x.node(SET, 9, -4, 0), x.node(KEEP, 3, 0, 0));
        x.body(0, x.node(TRY, NONE, x.node(THROW, ROOT, 0, 0), x.node(CATCH, ROOT, kept, NONE)));
        x.run();
        Check.same("held(9)", x.held(9), -4);
        Check.same("held(13)", x.held(13), 0);
        Check.same("held(12)", x.held(12), NONE);
        x.wouldRun(1, 1, 0);
        Check.same("held(13) behind wouldRun", x.held(13), 0);
        Check.outOfBounds("held(14)", () -> x.held(14));
        Check.outOfBounds("held(-1)", () -> x.held(NONE));
        x.limits(1, 1);
        x.run();
        Check.same("held(9) of a run that was cut off", x.held(9), 0);
        Check.same("held(13) of a run that was cut off", x.held(13), NONE);
    }

    private static void meanPrinted() {
        Check.about("promise 22");
        Tower x = new Tower();
        Check.same("meanPrinted()", x.meanPrinted(), 0.0);
        x.body(0, seq(x, print(x, 1), print(x, 2), print(x, -8)));
        x.run();
        Check.same("meanPrinted()", x.meanPrinted(), -5.0 / 3);
        int doubling = seq(x, x.node(ADD, 1, -1, 0), x.node(ADD, 0, 100, 0));
        x.body(0, seq(x, x.node(SET, 0, 99, 0), x.node(SET, 1, 24, 0), x.node(LOOP, 1, doubling, 0), print(x, 100),
                print(x, 100), print(x, 1)));
        x.run();
        Check.same("meanPrinted()", x.meanPrinted(), (2.0 * 1660944384 + 1) / 3);
        x.body(0, x.node(SET, 0, 0, 0));
        x.run();
        Check.same("meanPrinted()", x.meanPrinted(), 0.0);
    }

    private static void many() {
        Check.about("promise 23");
        Tower x = new Tower();
        x.kind(ROOT, false);
        int p = printing(x, 1);
        x.body(0, x.node(TRY, NONE, x.node(CALL, 0, p, 0), x.node(CATCH, ROOT, print(x, 2), NONE)));
        x.node(LOOP, 0, print(x, 3), 0);
        x.limits(7, 8);
        x.prune(true);
        int[] due = {6, 2, 7, 2, 0, 9, 1, 7, 8, 1};
        for (int what = 0; what <= 9; what++) {
            Check.same("many(" + what + ")", x.many(what), due[what]);
        }
        Check.illegalArgument("many(10)", () -> x.many(10));
        Check.illegalArgument("many(-1)", () -> x.many(NONE));
    }

    // ---- 24 to 27

    private static void wouldRun() {
        Check.about("promise 24");
        Tower x = new Tower();
        Check.illegalArgument("wouldRun(0, 1, 0)", () -> x.wouldRun(0, 1, 0));
        Check.illegalArgument("wouldRun(3001, 1, 0)", () -> x.wouldRun(3001, 1, 0));
        Check.illegalArgument("wouldRun(1, 0, 0)", () -> x.wouldRun(1, 0, 0));
        Check.illegalArgument("wouldRun(1, 31, 0)", () -> x.wouldRun(1, 31, 0));
        Check.illegalArgument("wouldRun(1, 1, 9)", () -> x.wouldRun(1, 1, 9));
        Check.illegalArgument("wouldRun(1, 1, -1)", () -> x.wouldRun(1, 1, NONE));
        Check.illegalState("wouldRun(1, 1, 8)", () -> x.wouldRun(1, 1, 8));
        int p = printing(x, 5);
        x.body(0, seq(x, x.node(CALL, 0, p, 0), x.node(SET, 1, 1, 0), x.node(RETURN, 0, 3, 0)));
        long digest = x.digest();
        int[] due = {0, 3, NONE, 6, 1, 2, 0, 2, 0};
        int[] cut = {2, 0, NONE, 3, 1, 2, 0, 2, 0};
        int[] low = {1, 0, 0, 2, 0, 1, 1, 1, 0};
        for (int what = 0; what <= 8; what++) {
            Check.same("wouldRun(3000, 30, " + what + ")", x.wouldRun(3000, 30, what), due[what]);
            Check.same("wouldRun(3, 2, " + what + ")", x.wouldRun(3, 2, what), cut[what]);
            Check.same("wouldRun(9, 1, " + what + ")", x.wouldRun(9, 1, what), low[what]);
        }
        Check.same("digest() behind it", x.digest(), digest);
        Check.same("held(1)", x.held(1), 0);
        Check.same("ofRun(9)", x.ofRun(9), 0);
        Check.same("many(7)", x.many(7), 800);
    }

    private static void catcher() {
        Check.about("promise 25");
        Tower x = new Tower();
        x.kind(ZERO, false);
        int thrown = x.node(THROW, 5, 0, 0);
        int inLast = print(x, 1);
        int ofRing = x.node(CATCH, RING, x.node(AGAIN, 0, 0, 0), NONE);
        int ofZero = x.node(CATCH, ZERO, print(x, 2), ofRing);
        int tried = x.node(TRY, inLast, thrown, ofZero);
        int used = x.node(USING, 0, tried, NONE);
        int ofRoot = x.node(CATCH, ROOT, print(x, 3), NONE);
        int outer = x.node(TRY, NONE, used, ofRoot);
        Check.same("catcher in none", x.catcher(thrown, 5), NONE);
        x.body(0, outer);
        int[][] due = {{thrown, 5, ofZero}, {thrown, ZERO, ofZero}, {thrown, RING, ofRing}, {thrown, ROOT, ofRoot},
                {thrown, EMPTY, ofRoot}, {inLast, 5, ofRoot}, {ofZero, 5, ofRoot}, {ofRing, RING, ofRoot},
                {ofRing - 1, RING, ofRoot}, {tried, 5, ofRoot}, {used, 5, ofRoot}, {outer, 5, NONE}, {ofRoot, 5, NONE},
                {ofRoot - 1, 5, NONE}};
        for (int[] one : due) {
            Check.same("catcher(" + one[0] + ", " + one[1] + ")", x.catcher(one[0], one[1]), one[2]);
        }
        Check.outOfBounds("catcher(-1, 0)", () -> x.catcher(NONE, 0));
        Check.outOfBounds("catcher(10, 0)", () -> x.catcher(outer + 1, 0));
        Check.outOfBounds("catcher(0, 6)", () -> x.catcher(0, 6));
        Check.outOfBounds("catcher(0, -1)", () -> x.catcher(0, NONE));
    }

    private static void faultsWith() {
        Check.about("promise 26");
        Tower x = new Tower();
        x.kind(ROOT, true);
        x.kind(ROOT, true);
        int p = x.procedure(0);
        x.body(p, print(x, 1));
        x.body(0, x.node(TRY, NONE, x.node(CALL, 0, p, 0), x.node(CATCH, 5, print(x, 2), NONE)));
        faults(x, at(2, 0, x.many(2) - 2, NONE));
        Check.same("faultsWith(p, 32)", x.faultsWith(p, 32), 0);
        Check.same("faultsWith(p, 64)", x.faultsWith(p, 64), 2);
        Check.same("faultsWith(p, 96)", x.faultsWith(p, 96), 1);
        Check.same("faultsWith(p, 0)", x.faultsWith(p, 0), 1);
        Check.same("faultsWith(0, 64)", x.faultsWith(0, 64), 1);
        Check.same("faultsWith(p, 64)", x.faultsWith(p, 64), 2);
        Check.same("ofProcedure(p, 0)", x.ofProcedure(p, 0), 0);
        Check.same("many(4)", x.many(4), 1);
        Check.outOfBounds("faultsWith(2, -1)", () -> x.faultsWith(2, NONE));
        Check.outOfBounds("faultsWith(-1, 0)", () -> x.faultsWith(NONE, 0));
        Check.illegalArgument("faultsWith(0, 128)", () -> x.faultsWith(0, 128));
        Check.illegalArgument("faultsWith(0, -1)", () -> x.faultsWith(0, NONE));
        x.body(p, print(x, 0));
        x.body(0, doubled(x, 7));
        Check.same("faultsWith, too long", x.faultsWith(0, 0), 1);
    }

    private static void digest() {
        Check.about("promise 27");
        Tower x = new Tower();
        Check.same("digest() of a new object", x.digest(), Digest.of(x));
        int closes = throwing(x, ZERO, 2);
        x.body(0, x.node(USING, NONE, seq(x, print(x, 3), x.node(THROW, RING, 3, 0)), closes));
        Check.same("digest() ahead of a run", x.digest(), Digest.of(x));
        x.run();
        long digest = Digest.of(x);
        Check.same("digest() behind a run", x.digest(), digest);
        Check.same("digest() changes nothing", x.digest(), digest);
        x.procedure(0);
        Check.same("digest() with a FAULT", x.digest(), Digest.of(x));
    }

    // ---- across the promises

    /** Each question as the first one behind what changes its answer. */
    private static void askedAtOnce() {
        Check.about("asked at once");
        Tower x = new Tower();
        int body = x.node(TRY, print(x, 1), print(x, 2), NONE);
        x.body(0, body);
        Check.same("code", x.code(0, 0, 4), 2);
        x.body(0, print(x, 4));
        Check.outOfBounds("row", () -> x.row(0, 0, 0));
        x.body(0, body);
        Check.same("row", x.row(0, 0, 2), 3);
        x.prune(true);
        Check.outOfBounds("row", () -> x.row(0, 0, 0));
        x.procedure(0);
        Check.same("fault", x.fault(0, 1), 1);
        Check.same("faultsWith", x.faultsWith(1, 31), 1);
        Check.same("ofProcedure", x.ofProcedure(1, 0), 0);
        x.body(1, x.node(THROW, RING, 0, 0));
        Check.outOfBounds("fault", () -> x.fault(0, 0));
        Check.same("run", x.run(), 0);
    }

    private static void partsWithNumberNought() {
        Check.about("NODE 0 and MAIN as parts");
        Tower x = new Tower();
        int thrown = x.node(THROW, RING, 0, 0);
        int tried = x.node(TRY, thrown, x.node(THROW, ZERO, 0, 0), NONE);
        Check.same("ofNode(tried, 5)", x.ofNode(tried, 5), 1 << RING);
        Check.same("ofNode(tried, 6)", x.ofNode(tried, 6), 1);
        int using = x.node(USING, 0, x.node(IF, 0, tried, NONE), 0);
        x.tell(0, 1 << EMPTY);
        Check.same("ofNode(using, 5)", x.ofNode(using, 5), 1 << RING | 1 << EMPTY);
        x.body(0, using);
        Check.same("code(0, 0, 0)", x.code(0, 0, 0), 18);
        Check.same("code(0, 0, 1)", x.code(0, 0, 1), 0);
        Check.same("ofProcedure(0, 4)", x.ofProcedure(0, 4), 3);
        Tower y = new Tower();
        y.body(0, y.node(SEQ, 0, y.node(BREAK, 0, 0, 0), print(y, 0)));
        faults(y, at(7, 0, 2, NONE), at(4, 0, 0, NONE));
        Check.same("ofNode(2, 6)", y.ofNode(2, 6), 1);
        Tower z = new Tower();
        z.body(0, z.node(USING, NONE, z.node(THROW, RING, 0, 0), 0));
        Check.same("ofNode(1, 5)", z.ofNode(1, 5), 1 << RING);
        code(z, 0, at(10, RING, 0, 0, 2), at(17, 0, 0, 0, 0), at(6, 7, 0, 0, 0), at(11, 0, 0, 0, 0), at(17, 0, 0, 0, 0),
                at(12, 0, 0, 0, 0), at(19, 0, 0, 0, 0), at(7, 0, 0, 0, 0), at(8, 0, 0, 0, 0));
        z.limits(100, 3);
        z.run();
        ofRun(z, 1, 0, 0, 6, 0, 3, 4, 3, 3);
    }

    private static void runGives() {
        Check.about("section 4, what a PROCEDURE gives");
        Tower x = new Tower();
        int gives = x.procedure(0);
        x.body(gives, seq(x, x.node(SET, 1, 9, 0), x.node(RETURN, 0, 101, 0)));
        int nothing = printing(x, 100);
        x.body(0, seq(x, x.node(SET, 0, 5, 0), x.node(USING, gives, print(x, 100), gives), print(x, 100),
                x.node(CALL, 0, gives, 0), x.node(CALL, 1, nothing, 0)));
        x.run();
        prints(x, 5, 5, 9);
        Check.same("held(0)", x.held(0), 9);
        Check.same("held(1)", x.held(1), 0);
        Check.same("ofRun(1)", x.ofRun(1), 0);
        // what throws leaves its VARIABLE as it was
        int throwing = throwing(x, RING, 1);
        int tried = x.node(TRY, NONE, x.node(CALL, 0, throwing, 0), x.node(CATCH, ROOT, print(x, 100), NONE));
        x.body(0, seq(x, x.node(SET, 0, 4, 0), tried));
        x.run();
        prints(x, 4);
    }

    /** Two EXCEPTIONS, turn by turn, each with more than one beneath it. */
    private static void runSuppressesMany() {
        Check.about("promise 19, more than one");
        Tower x = new Tower();
        int closes = throwing(x, ZERO, 2);
        int all = NONE;
        for (int slot = 0; slot < 2; slot++) {
            int keep = x.node(CATCH, ROOT, x.node(KEEP, slot, 0, 0), NONE);
            int one = x.node(TRY, NONE, x.node(THROW, ROOT, slot, 0), keep);
            all = slot == 0 ? one : x.node(SEQ, 0, all, one);
        }
        for (int turn = 0; turn < 5; turn++) {
            int used = x.node(USING, NONE, x.node(THROWN, turn % 2, 0, 0), closes);
            int tried = x.node(TRY, NONE, used, x.node(CATCH, ROOT, x.node(SET, 0, 0, 0), NONE));
            all = x.node(SEQ, 0, all, tried);
        }
        x.body(0, all);
        Check.same("run()", x.run(), 0);
        Check.same("ofRun(8)", x.ofRun(8), 5);
        Check.same("exception(0, 3)", x.exception(0, 3), 3);
        Check.same("exception(1, 3)", x.exception(1, 3), 2);
        int[] first = {2, 4, 6};
        for (int k = 0; k < 3; k++) {
            Check.same("suppressed(0, " + k + ")", x.suppressed(0, k), first[k]);
        }
        Check.same("suppressed(1, 0)", x.suppressed(1, 0), 3);
        Check.same("suppressed(1, 1)", x.suppressed(1, 1), 5);
        Check.same("digest()", x.digest(), Digest.of(x));
    }
}
