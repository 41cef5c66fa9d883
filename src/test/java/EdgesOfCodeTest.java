import java.util.function.Supplier;

/** The sentences of the document that name an edge, of section 5 and promises 11 to 13, as in EdgesOfTellingTest. */
public final class EdgesOfCodeTest extends Tests {
    private static final Supplier<Tower> NEW = Tower::new;
    private static final Supplier<Tower> RAN = Samples::ran;
    private static final Supplier<Tower> FAULTY = Samples::faulty;
    private static final Supplier<Tower> SHORT = EdgesOfCodeTest::shortest;
    private static final int MAIN = 0;
    private static final int[] HOLD = {7, 0, 0, 0, 0};
    private static final int[] GIVE = {8, 0, 0, 0, 0};

    private EdgesOfCodeTest() {
    }

    public static void main(String[] args) {
        codeRefused();
        rowRefused();
        shortestCode();
        choices();
        loops();
        tries();
        usings();
        wayOutOfBreak();
        wayOutUpToThere();
        wayOutOfReturn();
        wayOutOfNothing();
        wayOutOfCatchAndFinally();
        wayOutOfUsing();
        finallysWithinEachOther();
        finallysOnAWayOutOfAFinally();
        catchesWithinEachOther();
        caughtsInOtherPlaces();
        placesOfCaughts();
        caughtsOnAWayOut();
        deepest();
        begins();
        manyBegins();
        laidAgain();
        rowsFromAndTo();
        rowsOfWholes();
        rowsOfEachProcedure();
        firstRowThatFits();
        rowsInOrder();
        manyRows();
        manyUsings();
        emptyPieces();
        prune();
        pruneByInstruction();
        prunePieces();
        Check.end();
    }

    private static Tower shortest() {
        Tower x = new Tower();
        x.body(0, print(x, 3));
        return x;
    }

    private static int returned(Tower x, int operand) {
        return x.node(RETURN, 0, operand, 0);
    }

    private static int broken(Tower x) {
        return x.node(BREAK, 0, 0, 0);
    }

    /** A TRY with a CATCH of that CLASS and without a FINALLY. */
    private static int caught(Tower x, int b, int kind, int inCatch) {
        return x.node(TRY, NONE, b, x.node(CATCH, kind, inCatch, NONE));
    }

    // ---- what is refused

    private static void codeRefused() {
        Check.about("promise 12: if there is no such PROCEDURE, or there are FAULTS, or there is no such place");
        indexes("code(p, 0, 0)", SHORT, 0, 0, (x, procedure) -> x.code(procedure, 0, 0));
        indexes("code(p, 2, 4)", RAN, 0, 3, (x, procedure) -> x.code(procedure, 2, 4));
        indexes("code(0, k, 0)", SHORT, 0, 2, (x, k) -> x.code(0, k, 0));
        int length = RAN.get().ofProcedure(0, 3);
        indexes("code(0, k, 3)", RAN, 0, length - 1, (x, k) -> x.code(0, k, 3));
        indexes("code(3, k, 1)", RAN, 0, 2, (x, k) -> x.code(3, k, 1));
        outOfBounds("code(0, 0, 0) without a BODY", NEW, x -> x.code(0, 0, 0));
        outOfBounds("code(0, 0, 0) with a FAULT of another", FAULTY, x -> x.code(0, 0, 0));
        outOfBounds("code(4, 0, 0) with a FAULT", FAULTY, x -> x.code(4, 0, 0));
        Check.about("promise 12: if what is not 0 to 4");
        arguments("code(0, 0, what)", SHORT, 0, 4, (x, what) -> x.code(0, 0, what));
        arguments("code(0, last, what)", RAN, 0, 4, (x, what) -> x.code(0, length - 1, what));
        Check.about("promise 12: both, the first one is thrown");
        outOfBounds("code(1, 0, 5)", SHORT, x -> x.code(1, 0, 5));
        outOfBounds("code(0, 3, 5)", SHORT, x -> x.code(0, 3, 5));
        outOfBounds("code(0, -1, -1)", SHORT, x -> x.code(0, NONE, NONE));
        outOfBounds("code(0, 0, 5) with a FAULT", FAULTY, x -> x.code(0, 0, 5));
    }

    private static void rowRefused() {
        Check.about("promise 13: if there is no such PROCEDURE, or there are FAULTS, or there is no such ROW");
        Supplier<Tower> each = () -> {
            Tower x = new Tower();
            x.procedure(0);
            x.body(1, caught(x, print(x, 1), ZERO, print(x, 2)));
            x.body(0, x.node(TRY, print(x, 5), print(x, 3), x.node(CATCH, ZERO, print(x, 4), NONE)));
            return x;
        };
        indexes("row(p, 0, 0)", each, 0, 1, (x, procedure) -> x.row(procedure, 0, 0));
        indexes("row(0, k, 3)", each, 0, 2, (x, k) -> x.row(0, k, 3));
        indexes("row(1, k, 3)", each, 0, 0, (x, k) -> x.row(1, k, 3));
        int rows = RAN.get().ofProcedure(0, 4);
        indexes("row(0, k, 2)", RAN, 0, rows - 1, (x, k) -> x.row(0, k, 2));
        outOfBounds("row(1, 0, 0), without ROWS", RAN, x -> x.row(1, 0, 0));
        outOfBounds("row(0, 0, 0), without ROWS", SHORT, x -> x.row(0, 0, 0));
        outOfBounds("row(0, 0, 0) without a BODY", NEW, x -> x.row(0, 0, 0));
        outOfBounds("row(0, 0, 0) with a FAULT of another", FAULTY, x -> x.row(0, 0, 0));
        Check.about("promise 13: if what is not 0 to 3");
        arguments("row(0, 0, what)", each, 0, 3, (x, what) -> x.row(0, 0, what));
        arguments("row(0, last, what)", RAN, 0, 3, (x, what) -> x.row(0, rows - 1, what));
        Check.about("promise 13: both, the first one is thrown");
        outOfBounds("row(2, 0, 4)", each, x -> x.row(2, 0, 4));
        outOfBounds("row(0, 3, 4)", each, x -> x.row(0, 3, 4));
        outOfBounds("row(0, -1, -1)", each, x -> x.row(0, NONE, NONE));
        outOfBounds("row(0, 0, 4) with a FAULT", FAULTY, x -> x.row(0, 0, 4));
    }

    // ---- code

    private static void shortestCode() {
        Check.about("section 5: the CODE is that of its BODY, then 7 HOLD 0 0, 8 GIVE 0");
        code(shortest(), 0, at(4, 3, 0, 0, 1), HOLD, GIVE);
        rows(shortest(), 0);
        Tower x = new Tower();
        x.body(0, returned(x, 0));
        code(x, 0, at(7, 0, 0, 0, 1), at(8, 0, 0, 0, 0), HOLD, GIVE);
        x.run();
        Check.same("held(9)", x.held(9), 0);
        Check.about("section 5: operands that are not told are 0; V and X are as they are told, at their ends");
        Tower y = new Tower();
        y.body(0, seq(y, y.node(SET, 0, -99, 0), y.node(ADD, 9, 99, 0), y.node(DIV, 9, 100, 0), print(y, 109),
                y.node(CALL, 9, 0, 0), y.node(THROW, EMPTY, 109, 0)));
        code(y, 0, at(1, 0, -99, 0, 2), at(2, 9, 99, 0, 2), at(3, 9, 100, 0, 2), at(4, 109, 0, 0, 2), at(9, 9, 0, 0, 2),
                at(10, EMPTY, 109, 0, 1), HOLD, GIVE);
    }

    private static void choices() {
        Check.about("section 5, IF: 5 UNLESS t X, b, and, if there is a c, 6 SKIP t, c");
        Tower x = new Tower();
        x.body(0, x.node(IF, 109, print(x, 1), NONE));
        code(x, 0, at(5, 2, 109, 0, 1), at(4, 1, 0, 0, 1), HOLD, GIVE);
        x.body(0, x.node(IF, -99, print(x, 1), print(x, 2)));
        code(x, 0, at(5, 3, -99, 0, 1), at(4, 1, 0, 0, 1), at(6, 4, 0, 0, 0), at(4, 2, 0, 0, 1), HOLD, GIVE);
        Check.about("section 5, IF: c has nothing of what is around a part of b");
        int tried = x.node(TRY, print(x, 9), print(x, 1), NONE);
        x.body(0, x.node(IF, 0, tried, returned(x, 5)));
        code(x, 0, at(5, 8, 0, 0, 1), at(4, 1, 0, 0, 2), at(4, 9, 0, 0, 1), at(6, 7, 0, 0, 0), at(11, 0, 0, 0, 0),
                at(4, 9, 0, 0, 1), at(12, 0, 0, 0, 0), at(6, 10, 0, 0, 0), at(7, 5, 0, 0, 1), GIVE, HOLD, GIVE);
        rows(x, 0, at(1, 2, 4, NONE));
        Check.about("section 2, IF: X is above 0");
        for (int number = -1; number <= 2; number++) {
            x.body(0, x.node(IF, number, print(x, 1), print(x, 2)));
            x.run();
            prints(x, number > 0 ? 1 : 2);
            x.body(0, seq(x, x.node(SET, 7, number, 0), x.node(IF, 107, print(x, 1), NONE)));
            x.run();
            Check.same("PRINTED with " + number, x.ofRun(4), number > 0 ? 1 : 0);
        }
    }

    private static void loops() {
        Check.about("section 5, LOOP: 20 TURN, 5 UNLESS t X, b, 6 SKIP to that UNLESS, with t behind it");
        Tower x = new Tower();
        x.body(0, x.node(LOOP, 9, print(x, 1), 0));
        code(x, 0, at(20, 0, 0, 0, 1), at(5, 4, 109, 0, 0), at(4, 1, 0, 0, 1), at(6, 1, 0, 0, 0), HOLD, GIVE);
        Check.about("section 2, LOOP: as long as V is above 0");
        for (int number = -1; number <= 3; number++) {
            int b = seq(x, x.node(ADD, 9, -1, 0), print(x, 109));
            x.body(0, seq(x, x.node(SET, 9, number, 0), x.node(LOOP, 9, b, 0)));
            Check.same("run()", x.run(), 0);
            Check.same("turns with " + number, x.ofRun(4), Math.max(0, number));
            Check.same("held(9)", x.held(9), Math.min(0, number));
        }
    }

    private static void tries() {
        Check.about("section 5, TRY: where there is no FINALLY, nothing is laid for it; nor a SKIP at the very end");
        Tower x = new Tower();
        x.body(0, caught(x, print(x, 1), ROOT, print(x, 2)));
        code(x, 0, at(4, 1, 0, 0, 2), at(6, 4, 0, 0, 0), at(11, 0, 0, 0, 1), at(4, 2, 0, 0, 1), HOLD, GIVE);
        rows(x, 0, at(0, 1, 2, ROOT));
        int second = x.node(CATCH, ROOT, print(x, 3), NONE);
        x.body(0, x.node(TRY, NONE, print(x, 1), x.node(CATCH, ZERO, print(x, 2), second)));
        code(x, 0, at(4, 1, 0, 0, 2), at(6, 7, 0, 0, 0), at(11, 0, 0, 0, 1), at(4, 2, 0, 0, 1), at(6, 7, 0, 0, 0),
                at(11, 0, 0, 0, 1), at(4, 3, 0, 0, 1), HOLD, GIVE);
        rows(x, 0, at(0, 1, 2, ZERO), at(0, 1, 5, ROOT));
        x.body(0, x.node(TRY, print(x, 9), print(x, 1), NONE));
        code(x, 0, at(4, 1, 0, 0, 2), at(4, 9, 0, 0, 1), at(6, 6, 0, 0, 0), at(11, 0, 0, 0, 0), at(4, 9, 0, 0, 1),
                at(12, 0, 0, 0, 0), HOLD, GIVE);
        rows(x, 0, at(0, 1, 3, NONE));
        x.body(0, x.node(TRY, print(x, 9), print(x, 1), x.node(CATCH, ZERO, print(x, 2), NONE)));
        code(x, 0, at(4, 1, 0, 0, 2), at(4, 9, 0, 0, 1), at(6, 10, 0, 0, 0), at(11, 0, 0, 0, 1), at(4, 2, 0, 0, 1),
                at(4, 9, 0, 0, 1), at(6, 10, 0, 0, 0), at(11, 0, 0, 0, 0), at(4, 9, 0, 0, 1), at(12, 0, 0, 0, 0), HOLD, GIVE);
        rows(x, 0, at(0, 1, 3, ZERO), at(0, 1, 7, NONE), at(3, 5, 7, NONE));
        Check.about("section 5: the SKIP at the end of b is there, also if the TRY is the last of another one's b");
        int inner = caught(x, print(x, 1), ROOT, print(x, 2));
        x.body(0, caught(x, inner, ROOT, print(x, 3)));
        code(x, 0, at(4, 1, 0, 0, 3), at(6, 4, 0, 0, 0), at(11, 0, 0, 0, 1), at(4, 2, 0, 0, 1), at(6, 7, 0, 0, 0),
                at(11, 0, 0, 0, 1), at(4, 3, 0, 0, 1), HOLD, GIVE);
        rows(x, 0, at(0, 1, 2, ROOT), at(0, 4, 5, ROOT));
    }

    private static void usings() {
        Check.about("section 5, USING: 18 OPEN P, if there is one; b; 17 CLOSE P, if there is one; with one ..");
        Tower x = new Tower();
        int p = printing(x, 8);
        int q = printing(x, 9);
        x.body(0, x.node(USING, q, print(x, 1), NONE));
        code(x, 0, at(18, q, 0, 0, 1), at(4, 1, 0, 0, 1), HOLD, GIVE);
        rows(x, 0);
        x.body(0, x.node(USING, NONE, print(x, 1), q));
        code(x, 0, at(4, 1, 0, 0, 2), at(17, q, 0, 0, 0), at(6, 7, 0, 0, 0), at(11, 0, 0, 0, 0), at(17, q, 0, 0, 0),
                at(12, 0, 0, 0, 0), at(19, 0, 0, 0, 0), HOLD, GIVE);
        rows(x, 0, at(0, 1, 3, NONE), at(4, 5, 6, NONE));
        x.body(0, x.node(USING, p, print(x, 1), q));
        code(x, 0, at(18, p, 0, 0, 1), at(4, 1, 0, 0, 1), at(17, q, 0, 0, 0), at(6, 8, 0, 0, 0), at(11, 0, 0, 0, 0),
                at(17, q, 0, 0, 0), at(12, 0, 0, 0, 0), at(19, 0, 0, 0, 0), HOLD, GIVE);
        rows(x, 0, at(1, 2, 4, NONE), at(5, 6, 7, NONE));
        x.run();
        prints(x, 8, 1, 9);
    }

    // ---- the WAY OUT, and its GAPS

    private static void wayOutOfBreak() {
        Check.about("section 5, BREAK: the WAY OUT to its LOOP, 6 SKIP t (behind the LOOP)");
        Tower x = new Tower();
        x.body(0, x.node(LOOP, 0, broken(x), 0));
        code(x, 0, at(20, 0, 0, 0, 1), at(5, 4, 100, 0, 0), at(6, 4, 0, 0, 1), at(6, 1, 0, 0, 0), HOLD, GIVE);
        // of the innermost LOOP
        x.body(0, x.node(LOOP, 0, x.node(LOOP, 1, broken(x), 0), 0));
        code(x, 0, at(20, 0, 0, 0, 1), at(5, 7, 100, 0, 0), at(20, 0, 0, 0, 1), at(5, 6, 101, 0, 0), at(6, 6, 0, 0, 1),
                at(6, 3, 0, 0, 0), at(6, 1, 0, 0, 0), HOLD, GIVE);
    }

    private static void wayOutUpToThere() {
        Check.about("section 5, the WAY OUT: for each TRY up to there; the TRY around the LOOP is none of them");
        Tower x = new Tower();
        int inner = x.node(TRY, print(x, 8), broken(x), NONE);
        x.body(0, x.node(TRY, print(x, 7), x.node(LOOP, 0, inner, 0), NONE));
        code(x, 0, at(20, 0, 0, 0, 2), at(5, 10, 100, 0, 0), at(4, 8, 0, 0, 3), at(6, 10, 0, 0, 0), at(4, 8, 0, 0, 1),
                at(6, 9, 0, 0, 0), at(11, 0, 0, 0, 0), at(4, 8, 0, 0, 1), at(12, 0, 0, 0, 0), at(6, 1, 0, 0, 0),
                at(4, 7, 0, 0, 1), at(6, 15, 0, 0, 0), at(11, 0, 0, 0, 0), at(4, 7, 0, 0, 1), at(12, 0, 0, 0, 0), HOLD, GIVE);
        rows(x, 0, at(0, 10, 12, NONE));
        Check.about("section 5: from inside outwards");
        int first = x.node(TRY, print(x, 1), broken(x), NONE);
        int second = x.node(TRY, print(x, 2), first, NONE);
        x.body(0, x.node(SEQ, 0, x.node(SET, 0, 1, 0), x.node(LOOP, 0, second, 0)));
        Check.same("run()", x.run(), 0);
        prints(x, 1, 2);
        Check.same("the first on the WAY OUT", x.code(0, 3, 1), 1);
        Check.same("the second on the WAY OUT", x.code(0, 4, 1), 2);
        Check.same("the end of the BREAK", x.code(0, 5, 0), 6);
        Check.same("and where it goes", x.code(0, 5, 1), x.ofProcedure(0, 3) - 2);
    }

    private static void wayOutOfReturn() {
        Check.about("section 5, RETURN: 7 HOLD X h, the WAY OUT of the PROCEDURE, 8 GIVE h; the HOLD is in no GAP");
        Tower x = new Tower();
        int inner = x.node(TRY, print(x, 8), returned(x, 5), NONE);
        x.body(0, x.node(TRY, print(x, 7), inner, NONE));
        code(x, 0, at(7, 5, 0, 0, 3), at(4, 8, 0, 0, 1), at(4, 7, 0, 0, 1), GIVE, at(4, 8, 0, 0, 1), at(6, 9, 0, 0, 0),
                at(11, 0, 0, 0, 0), at(4, 8, 0, 0, 1), at(12, 0, 0, 0, 0), at(4, 7, 0, 0, 1), at(6, 14, 0, 0, 0),
                at(11, 0, 0, 0, 0), at(4, 7, 0, 0, 1), at(12, 0, 0, 0, 0), HOLD, GIVE);
        rows(x, 0, at(0, 1, 6, NONE), at(0, 2, 11, NONE), at(4, 9, 11, NONE));
        x.run();
        prints(x, 8, 7);
        Check.same("ofRun(1)", x.ofRun(1), 5);
        Check.about("section 5: a LOOP around a RETURN does not end its WAY OUT");
        x.body(0, x.node(TRY, print(x, 7), x.node(LOOP, 0, returned(x, 5), 0), NONE));
        code(x, 0, at(20, 0, 0, 0, 2), at(5, 6, 100, 0, 0), at(7, 5, 0, 0, 1), at(4, 7, 0, 0, 1), GIVE, at(6, 1, 0, 0, 0),
                at(4, 7, 0, 0, 1), at(6, 11, 0, 0, 0), at(11, 0, 0, 0, 0), at(4, 7, 0, 0, 1), at(12, 0, 0, 0, 0), HOLD, GIVE);
        rows(x, 0, at(0, 3, 8, NONE), at(5, 6, 8, NONE));
    }

    private static void wayOutOfNothing() {
        Check.about("section 5: from where that begins (also if it is nothing) to the end is a GAP of that TRY or USING");
        Tower x = new Tower();
        int inner = caught(x, returned(x, 5), ROOT, print(x, 8));
        x.body(0, x.node(TRY, print(x, 7), inner, NONE));
        code(x, 0, at(7, 5, 0, 0, 3), at(4, 7, 0, 0, 1), GIVE, at(6, 6, 0, 0, 0), at(11, 0, 0, 0, 1), at(4, 8, 0, 0, 1),
                at(4, 7, 0, 0, 1), at(6, 11, 0, 0, 0), at(11, 0, 0, 0, 0), at(4, 7, 0, 0, 1), at(12, 0, 0, 0, 0), HOLD, GIVE);
        rows(x, 0, at(0, 1, 4, ROOT), at(0, 1, 8, NONE), at(3, 6, 8, NONE));
        // the GAP of the inner one begins ahead of what the outer one lays: what that throws is not for the inner one
        int within = caught(x, returned(x, 5), ROOT, print(x, 8));
        x.body(0, x.node(TRY, x.node(THROW, ZERO, 1, 0), within, NONE));
        Check.same("run()", x.run(), 1);
        prints(x);
        exception(x, 0, ZERO, 1, NONE, 0, 1);
        // without a FINALLY at all: the end of the BREAK is a GAP, and that of the RETURN
        int choice = x.node(IF, 101, broken(x), returned(x, 1));
        x.body(0, x.node(LOOP, 0, caught(x, choice, ROOT, print(x, 2)), 0));
        code(x, 0, at(20, 0, 0, 0, 1), at(5, 11, 100, 0, 0), at(5, 5, 101, 0, 2), at(6, 11, 0, 0, 1), at(6, 7, 0, 0, 0),
                at(7, 1, 0, 0, 1), GIVE, at(6, 10, 0, 0, 0), at(11, 0, 0, 0, 1), at(4, 2, 0, 0, 1), at(6, 1, 0, 0, 0),
                HOLD, GIVE);
        rows(x, 0, at(2, 3, 8, ROOT), at(4, 6, 8, ROOT));
    }

    private static void wayOutOfCatchAndFinally() {
        Check.about("section 5, the WAY OUT: of which one is in b or a CATCH, but not of which one is in the FINALLY");
        Tower x = new Tower();
        x.body(0, x.node(LOOP, 0, x.node(TRY, broken(x), print(x, 1), NONE), 0));
        code(x, 0, at(20, 0, 0, 0, 1), at(5, 9, 100, 0, 0), at(4, 1, 0, 0, 2), at(6, 9, 0, 0, 1), at(6, 8, 0, 0, 0),
                at(11, 0, 0, 0, 0), at(6, 9, 0, 0, 1), at(12, 0, 0, 0, 0), at(6, 1, 0, 0, 0), HOLD, GIVE);
        rows(x, 0, at(2, 3, 5, NONE));
        int handled = x.node(CATCH, ROOT, broken(x), NONE);
        x.body(0, x.node(LOOP, 0, x.node(TRY, print(x, 9), print(x, 1), handled), 0));
        code(x, 0, at(20, 0, 0, 0, 1), at(5, 14, 100, 0, 0), at(4, 1, 0, 0, 2), at(4, 9, 0, 0, 1), at(6, 13, 0, 0, 0),
                at(11, 0, 0, 0, 1), at(4, 9, 0, 0, 2), at(6, 14, 0, 0, 0), at(4, 9, 0, 0, 1), at(6, 13, 0, 0, 0),
                at(11, 0, 0, 0, 0), at(4, 9, 0, 0, 1), at(12, 0, 0, 0, 0), at(6, 1, 0, 0, 0), HOLD, GIVE);
        rows(x, 0, at(2, 3, 5, ROOT), at(2, 3, 10, NONE), at(5, 6, 10, NONE));
    }

    private static void wayOutOfUsing() {
        Check.about("section 5, the WAY OUT: each USING, of which one is in b: 17 CLOSE P, if there is one");
        Tower x = new Tower();
        int p = printing(x, 8);
        int q = printing(x, 9);
        int inner = x.node(USING, q, broken(x), NONE);
        x.body(0, x.node(LOOP, 0, x.node(USING, NONE, inner, p), 0));
        code(x, 0, at(20, 0, 0, 0, 1), at(5, 12, 100, 0, 0), at(18, q, 0, 0, 2), at(17, p, 0, 0, 1), at(6, 12, 0, 0, 0),
                at(17, p, 0, 0, 0), at(6, 11, 0, 0, 0), at(11, 0, 0, 0, 0), at(17, p, 0, 0, 0), at(12, 0, 0, 0, 0),
                at(19, 0, 0, 0, 0), at(6, 1, 0, 0, 0), HOLD, GIVE);
        rows(x, 0, at(2, 3, 7, NONE), at(8, 9, 10, NONE));
        // what closes on the WAY OUT is not closed once more, as it throws
        int throwing = throwing(x, ZERO, 2);
        x.body(0, x.node(USING, NONE, returned(x, 1), throwing));
        Check.same("run()", x.run(), 1);
        Check.same("CALLED", x.ofProcedure(throwing, 5), 1);
        Check.same("ofRun(8)", x.ofRun(8), 0);
    }

    private static void finallysWithinEachOther() {
        Check.about("section 5: h is how many FINALLYS it is within, in whose CODE it stands, each as it is laid");
        Tower x = new Tower();
        int inner = x.node(TRY, returned(x, 3), returned(x, 2), NONE);
        x.body(0, x.node(TRY, inner, returned(x, 1), NONE));
        int[][] due = new int[40][];
        due[0] = at(7, 1, 0, 0, 2);
        int[] starts = {1, 13, 26};
        for (int s : starts) {
            int d = s == 26 ? 1 : 0;
            int[][] laid = {at(7, 2, 1, 0, 2), at(7, 3, 2, 0, 1), at(8, 2, 0, 0, 0), at(8, 1, 0, 0, 0), at(7, 3, 2, 0, 1),
                at(8, 2, 0, 0, 0), at(6, s + 11, 0, 0, 0), at(11, d, 0, 0, 0), at(7, 3, 2, 0, 1), at(8, 2, 0, 0, 0),
                at(12, d, 0, 0, 0)};
            System.arraycopy(laid, 0, due, s, laid.length);
        }
        due[12] = GIVE;
        due[24] = at(6, 38, 0, 0, 0);
        due[25] = at(11, 0, 0, 0, 0);
        due[37] = at(12, 0, 0, 0, 0);
        due[38] = HOLD;
        due[39] = GIVE;
        code(x, 0, due);
        rows(x, 0, at(1, 2, 8, NONE), at(13, 14, 20, NONE), at(26, 27, 33, NONE), at(0, 1, 25, NONE));
        x.run();
        Check.same("ofRun(1)", x.ofRun(1), 3);
        Check.about("section 5: a HOLD of a FINALLY on the WAY OUT leaves that of the RETURN as it is");
        int gone = x.node(TRY, broken(x), returned(x, 8), NONE);
        int last = seq(x, x.node(SET, 0, 1, 0), x.node(LOOP, 0, gone, 0));
        x.body(0, x.node(TRY, last, returned(x, 7), NONE));
        x.run();
        Check.same("ofRun(1)", x.ofRun(1), 7);
    }

    private static void finallysOnAWayOutOfAFinally() {
        Check.about("section 5: a FINALLY on the WAY OUT of a RETURN in another FINALLY is within both");
        Tower x = new Tower();
        int inner = x.node(TRY, returned(x, 6), print(x, 1), NONE);
        x.body(MAIN, x.node(TRY, returned(x, 5), inner, NONE));
        code(x, MAIN, at(4, 1, 0, 0, 3), at(7, 6, 1, 0, 1), at(7, 5, 2, 0, 1), at(8, 2, 0, 0, 0), at(8, 1, 0, 0, 0),
                at(6, 12, 0, 0, 0), at(11, 0, 0, 0, 0), at(7, 6, 1, 0, 1), at(7, 5, 2, 0, 1), at(8, 2, 0, 0, 0),
                at(8, 1, 0, 0, 0), at(12, 0, 0, 0, 0), at(7, 5, 1, 0, 1), at(8, 1, 0, 0, 0), at(6, 19, 0, 0, 0),
                at(11, 0, 0, 0, 0), at(7, 5, 1, 0, 1), at(8, 1, 0, 0, 0), at(12, 0, 0, 0, 0), HOLD, GIVE);
        rows(x, MAIN, at(0, 1, 6, NONE), at(0, 2, 15, NONE), at(5, 8, 15, NONE), at(11, 12, 15, NONE));
        Check.about("section 4: RETURN reckons its X ahead of all that is run on its way, also in a FINALLY");
        int gone = x.node(TRY, broken(x), returned(x, 8), NONE);
        int turned = x.node(SEQ, 0, x.node(SET, 0, 1, 0), x.node(LOOP, 0, gone, 0));
        int first = x.node(TRY, returned(x, 6), print(x, 1), NONE);
        x.body(MAIN, x.node(TRY, turned, first, NONE));
        Check.same("run()", x.run(), 0);
        Check.same("ofRun(1)", x.ofRun(1), 6);
        Check.same("with the RETURN on its way", x.ofRun(3), 10);
    }

    private static void catchesWithinEachOther() {
        Check.about("section 5: d of a CAUGHT is how many CAUGHTS it is within; AGAIN has that of its CATCH");
        Tower x = new Tower();
        int inner = x.node(AGAIN, 0, 0, 0);
        for (int level = 28; level >= 0; level--) {
            inner = caught(x, x.node(THROW, ROOT, level, 0), ROOT, inner);
        }
        x.body(0, inner);
        faults(x);
        Check.same("ofProcedure(0, 3)", x.ofProcedure(0, 3), 29 * 3 + 3);
        for (int level = 0; level <= 28; level++) {
            Check.same("CAUGHT", x.code(0, level * 3 + 2, 0), 11);
            Check.same("its d", x.code(0, level * 3 + 2, 1), level);
        }
        Check.same("AGAIN", x.code(0, 87, 0), 12);
        Check.same("its d", x.code(0, 87, 1), 28);
        Check.same("run()", x.run(), 1);
        Check.same("ofRun(2)", x.ofRun(2), 28);
        Check.about("section 5: one laid behind b stands within those of its TRY's surroundings alone");
        Tower y = new Tower();
        int last = caught(y, print(y, 1), ROOT, print(y, 2));
        int tried = y.node(TRY, last, print(y, 3), y.node(CATCH, ROOT, print(y, 4), NONE));
        y.body(0, caught(y, print(y, 5), ROOT, tried));
        // the CAUGHT of the outer CATCH; of the FINALLY behind b; of the CATCH; of the FINALLY behind that; the last ones
        int[] due = {0, 1, 1, 1, 1, 2};
        int found = 0;
        for (int k = 0; k < y.ofProcedure(0, 3); k++) {
            if (y.code(0, k, 0) == 11) {
                Check.same("CAUGHT " + found + " at " + k, y.code(0, k, 1), due[found]);
                found++;
            }
        }
        Check.same("CAUGHTS", found, 6);
    }

    /** The d of each CAUGHT of MAIN. */
    private static void caughts(Tower x, int... due) {
        faults(x);
        int found = 0;
        for (int k = 0; k < x.ofProcedure(MAIN, 3); k++) {
            if (x.code(MAIN, k, 0) == 11) {
                Check.same("CAUGHT " + found + " at " + k, x.code(MAIN, k, 1), found < due.length ? due[found] : NONE);
                found++;
            }
        }
        Check.same("CAUGHTS", found, due.length);
    }

    /** A TRY with a RETURN in its CATCH, and with a FINALLY in which a CAUGHT stands. */
    private static int leaving(Tower x) {
        int last = caught(x, print(x, 1), ROOT, print(x, 2));
        return x.node(TRY, last, print(x, 3), x.node(CATCH, ZERO, x.node(IF, 100, returned(x, 4), NONE), NONE));
    }

    private static void caughtsInOtherPlaces() {
        Check.about("section 5: d is how many CAUGHTS it is within, not what else it is within");
        // of the FINALLY behind b; of the CATCH; of the FINALLY on the WAY OUT, and behind the CATCH; the last two
        int[] due = {0, 0, 1, 0, 0, 1};
        Tower x = new Tower();
        x.body(MAIN, leaving(x));
        caughts(x, due);
        x.body(MAIN, x.node(SEQ, 0, print(x, 0), leaving(x)));
        caughts(x, due);
        x.body(MAIN, x.node(LOOP, 0, x.node(IF, 1, x.node(SEQ, 0, print(x, 0), leaving(x)), NONE), 0));
        caughts(x, due);
        Tower y = new Tower();
        y.body(MAIN, caught(y, print(y, 0), ROOT, y.node(IF, 1, y.node(SEQ, 0, print(y, 0), leaving(y)), NONE)));
        caughts(y, 0, 1, 1, 2, 1, 1, 2);
        y.body(MAIN, y.node(IF, 1, y.node(USING, NONE, y.node(LOOP, 0, leaving(y), 0), MAIN), NONE));
        caughts(y, 0, 0, 1, 0, 0, 1, 0);
        int inner = caught(y, print(y, 0), ROOT, y.node(SEQ, 0, print(y, 0), leaving(y)));
        y.body(MAIN, y.node(SEQ, 0, print(y, 0), caught(y, print(y, 0), ROOT, inner)));
        caughts(y, 0, 1, 2, 2, 3, 2, 2, 3);
    }

    private static void placesOfCaughts() {
        Check.about("section 5: AGAIN, WRAP, KEEP and LINK have the d of the CAUGHT of their CATCH; THROWN has none");
        Tower x = new Tower();
        int choice = x.node(IF, 100, x.node(WRAP, RING, 9, 0), x.node(AGAIN, 0, 0, 0));
        int handled = seq(x, x.node(KEEP, 1, 0, 0), x.node(LINK, 2, 0, 0), choice);
        int inner = caught(x, print(x, 1), ROOT, handled);
        x.body(0, caught(x, print(x, 0), ROOT, inner));
        code(x, 0, at(4, 0, 0, 0, 2), at(6, 12, 0, 0, 0), at(11, 0, 0, 0, 1), at(4, 1, 0, 0, 2), at(6, 12, 0, 0, 0),
                at(11, 1, 0, 0, 1), at(14, 1, 1, 0, 2), at(15, 2, 1, 0, 2), at(5, 11, 100, 0, 1), at(13, RING, 9, 1, 1),
                at(6, 12, 0, 0, 0), at(12, 1, 0, 0, 1), HOLD, GIVE);
        rows(x, 0, at(3, 4, 5, ROOT), at(0, 1, 2, ROOT));
        // behind an inner CATCH, and in b of an inner TRY, it is that of the outer one again
        int behind = x.node(SEQ, 0, caught(x, print(x, 1), ROOT, x.node(KEEP, 0, 0, 0)), x.node(AGAIN, 0, 0, 0));
        x.body(0, caught(x, print(x, 0), ROOT, behind));
        code(x, 0, at(4, 0, 0, 0, 2), at(6, 8, 0, 0, 0), at(11, 0, 0, 0, 1), at(4, 1, 0, 0, 3), at(6, 7, 0, 0, 0),
                at(11, 1, 0, 0, 1), at(14, 0, 1, 0, 1), at(12, 0, 0, 0, 1), HOLD, GIVE);
        int within = caught(x, x.node(LINK, 3, 0, 0), ROOT, x.node(WRAP, ROOT, 1, 0));
        x.body(0, caught(x, print(x, 0), ROOT, within));
        code(x, 0, at(4, 0, 0, 0, 2), at(6, 7, 0, 0, 0), at(11, 0, 0, 0, 1), at(15, 3, 0, 0, 2), at(6, 7, 0, 0, 0),
                at(11, 1, 0, 0, 1), at(13, 0, 1, 1, 1), HOLD, GIVE);
        x.body(0, x.node(THROWN, 3, 0, 0));
        code(x, 0, at(16, 3, 0, 0, 1), HOLD, GIVE);
    }

    private static void caughtsOnAWayOut() {
        Check.about("section 5: a FINALLY that is laid on a WAY OUT stands within all in which the BREAK or RETURN does");
        Tower x = new Tower();
        int again = caught(x, print(x, 2), ROOT, x.node(AGAIN, 0, 0, 0));
        x.body(0, x.node(TRY, again, print(x, 3), x.node(CATCH, ZERO, returned(x, 5), NONE)));
        code(x, 0, at(4, 3, 0, 0, 2), at(4, 2, 0, 0, 2), at(6, 5, 0, 0, 0), at(11, 0, 0, 0, 1), at(12, 0, 0, 0, 1),
                at(6, 24, 0, 0, 0), at(11, 0, 0, 0, 1), at(7, 5, 0, 0, 1), at(4, 2, 0, 0, 2), at(6, 12, 0, 0, 0),
                at(11, 1, 0, 0, 1), at(12, 1, 0, 0, 1), GIVE, at(4, 2, 0, 0, 2), at(6, 17, 0, 0, 0), at(11, 0, 0, 0, 1),
                at(12, 0, 0, 0, 1), at(6, 24, 0, 0, 0), at(11, 0, 0, 0, 0), at(4, 2, 0, 0, 2), at(6, 23, 0, 0, 0),
                at(11, 1, 0, 0, 1), at(12, 1, 0, 0, 1), at(12, 0, 0, 0, 0), HOLD, GIVE);
        rows(x, 0, at(1, 2, 3, ROOT), at(8, 9, 10, ROOT), at(13, 14, 15, ROOT), at(19, 20, 21, ROOT), at(0, 1, 6, ZERO),
                at(0, 1, 18, NONE), at(6, 8, 18, NONE));
    }

    private static void deepest() {
        Check.about("section 2: 90 NODES, each a part of the next one");
        Tower x = new Tower();
        int all = print(x, 7);
        for (int k = 0; k < 89; k++) {
            all = x.node(IF, 1, all, NONE);
        }
        x.body(0, all);
        faults(x);
        Check.same("IF, ofProcedure(0, 3)", x.ofProcedure(0, 3), 89 + 3);
        Check.same("where it goes", x.code(0, 0, 1), 90);
        x.run();
        ofRun(x, 0, 0, NONE, 90, 1, 1, 0, 1, 0);
        Tower y = new Tower();
        all = y.node(BREAK, 0, 0, 0);
        for (int k = 0; k < 89; k++) {
            all = y.node(LOOP, 0, all, 0);
        }
        y.body(0, all);
        faults(y);
        Check.same("LOOP, ofProcedure(0, 3)", y.ofProcedure(0, 3), 3 * 89 + 3);
        Check.same("the BREAK", y.code(0, 178, 0), 6);
        Check.same("where it goes", y.code(0, 178, 1), 180);
        y.run();
        ofRun(y, 0, 0, NONE, 1, 0, 1, 0, 1, 0);
        Tower z = new Tower();
        int p = printing(z, 8);
        all = z.node(THROW, ROOT, 1, 0);
        for (int k = 0; k < 36; k++) {
            all = z.node(USING, NONE, all, p);
        }
        z.body(0, all);
        faults(z);
        Check.same("USING, ofProcedure(0, 3)", z.ofProcedure(0, 3), 36 * 6 + 3);
        Check.same("USING, ofProcedure(0, 4)", z.ofProcedure(0, 4), 72);
        Check.same("run()", z.run(), 1);
        Check.same("ofRun(4)", z.ofRun(4), 36);
        Tower t = new Tower();
        all = t.node(THROW, ZERO, 1, 0);
        for (int k = 0; k < 29; k++) {
            all = caught(t, all, k < 28 ? RING : ZERO, print(t, k));
        }
        t.body(0, all);
        faults(t);
        Check.same("TRY, ofProcedure(0, 4)", t.ofProcedure(0, 4), 29);
        Check.same("run()", t.run(), 0);
        prints(t, 28);
    }

    private static void begins() {
        Check.about("promise 12: how many NODES begin with it (a CATCH begins with its CAUGHT)");
        Tower x = new Tower();
        int all = print(x, 0);
        for (int k = 1; k <= 44; k++) {
            all = x.node(SEQ, 0, all, print(x, k));
        }
        x.body(0, all);
        Check.same("44 SEQS and the first PRINT", x.code(0, 0, 4), 45);
        for (int k = 1; k <= 44; k++) {
            Check.same("code(0, " + k + ", 4)", x.code(0, k, 4), 1);
        }
        Check.same("HOLD at the end", x.code(0, 45, 4), 0);
        Check.same("GIVE at the end", x.code(0, 46, 4), 0);
        x.run();
        Check.same("STEPS ahead of the first PRINT", x.printed(0, 1), 45);
        Check.same("STEPS ahead of the second PRINT", x.printed(1, 1), 46);
        Tower y = new Tower();
        y.body(0, y.node(LOOP, 0, y.node(TRY, print(y, 1), broken(y), NONE), 0));
        Check.same("the TRY, the BREAK, and the FINALLY on its WAY OUT", y.code(0, 2, 4), 3);
        Check.same("the UNLESS of a LOOP", y.code(0, 1, 4), 0);
        Check.same("the last CAUGHT of a FINALLY", y.code(0, 6, 4), 0);
    }

    private static void manyBegins() {
        Check.about("promise 12: of a FINALLY of 21 PRINTS in 20 SEQS that is laid 12 times, each NODE of each one");
        Tower x = new Tower();
        int last = print(x, 20);
        for (int k = 19; k >= 0; k--) {
            last = x.node(SEQ, 0, print(x, k), last);
        }
        int b = x.node(DIV, 0, 0, 0);
        for (int k = 0; k < 10; k++) {
            b = x.node(SEQ, 0, x.node(IF, 109 - k, returned(x, k), NONE), b);
        }
        x.body(0, x.node(TRY, last, b, NONE));
        faults(x);
        Check.same("ofProcedure(0, 3)", x.ofProcedure(0, 3), 10 * 24 + 1 + 21 + 2 + 21 + 1 + 2);
        int all = 0;
        for (int k = 0; k < x.ofProcedure(0, 3); k++) {
            all += x.code(0, k, 4);
        }
        Check.same("how many begin in all", all, 1 + 10 * (3 + 41) + 1 + 2 * 41);
        Check.same("run()", x.run(), 1);
        Check.same("ofRun(3)", x.ofRun(3), 1 + 20 + 1 + 41);
        for (int node = 0; node <= last; node++) {
            Check.same("of the last one, ofNode(" + node + ", 7)", x.ofNode(node, 7), 1);
        }
        Check.same("printed(20, 2)", x.printed(20, 2), 0);
    }

    private static void laidAgain() {
        Check.about("promise 12: how many NODES begin with it, however often the CODE was asked for");
        UnwindTower x = new UnwindTower();
        int all = x.node(PRINT, 0, 0, 0);
        for (int k = 1; k <= 9; k++) {
            all = x.node(SEQ, 0, x.node(PRINT, 0, k, 0), all);
        }
        x.body(MAIN, all);
        for (int k = 0; k < 220; k++) {
            x.prune(k % 2 == 0);
            Check.same("code(0, 0, 4)", x.code(MAIN, 0, 4), 2);
        }
        x.run();
        Check.same("ofRun(3)", x.ofRun(3), 19);
        for (int node = 0; node <= all; node++) {
            Check.same("ofNode(" + node + ", 7)", x.ofNode(node, 7), 1);
        }
        Check.about("promise 13: the ROWS, however often they were asked for");
        UnwindTower y = new UnwindTower();
        int inner = y.node(DIV, 0, 0, 0);
        for (int k = 0; k < 5; k++) {
            inner = y.node(TRY, NONE, inner, y.node(CATCH, ROOT, y.node(PRINT, 0, k, 0), NONE));
        }
        y.body(MAIN, inner);
        for (int k = 0; k < 120; k++) {
            y.prune(k % 2 == 0);
            Check.same("ofProcedure(0, 4)", y.ofProcedure(MAIN, 4), 5);
            Check.same("row(0, 4, 0)", y.row(MAIN, 4, 0), 0);
            Check.same("row(0, 4, 1)", y.row(MAIN, 4, 1), 12 + 1);
        }
    }

    // ---- rows

    private static final int WHOLES = 22;

    /** STATEMENTS of all sorts, out of which no WAY OUT leads. */
    private static int whole(Tower x, int which) {
        switch (which) {
            case 0: return x.node(SET, 0, 1, 0);
            case 1: return x.node(ADD, 0, 1, 0);
            case 2: return x.node(DIV, 0, 1, 0);
            case 3: return print(x, 1);
            case 4: return seq(x, print(x, 1), print(x, 2));
            case 5: return x.node(IF, 1, print(x, 1), NONE);
            case 6: return x.node(IF, 1, print(x, 1), print(x, 2));
            case 7: return x.node(LOOP, 0, print(x, 1), 0);
            case 8: return x.node(LOOP, 0, broken(x), 0);
            case 9: return x.node(CALL, 0, MAIN, 0);
            case 10: return x.node(THROW, ROOT, 1, 0);
            case 11: return caught(x, print(x, 1), ROOT, print(x, 2));
            case 12: return x.node(TRY, print(x, 1), print(x, 2), NONE);
            case 13: return x.node(TRY, print(x, 1), print(x, 2), x.node(CATCH, RING, print(x, 3), NONE));
            case 14: return x.node(LOOP, 0, x.node(TRY, print(x, 1), broken(x), NONE), 0);
            case 15: return x.node(USING, MAIN, print(x, 1), NONE);
            case 16: return x.node(USING, NONE, print(x, 1), MAIN);
            case 17: return x.node(USING, MAIN, print(x, 1), MAIN);
            case 18: return x.node(LOOP, 0, x.node(USING, MAIN, broken(x), MAIN), 0);
            case 19: return x.node(THROWN, 0, 0, 0);
            case 20: return x.node(LOOP, 0, x.node(IF, 1, broken(x), print(x, 1)), 0);
            default: return caught(x, print(x, 1), ROOT, x.node(AGAIN, 0, 0, 0));
        }
    }

    /** What is laid ahead of something else: so many instructions, in USINGS that only OPEN. */
    private static int behind(Tower x, int instructions, int statement) {
        if (instructions == 0) {
            return statement;
        }
        int ahead = print(x, 0);
        for (int k = 1; k < instructions; k++) {
            ahead = x.node(USING, MAIN, ahead, NONE);
        }
        return x.node(SEQ, 0, ahead, statement);
    }

    private static void rowsOfWholes() {
        Check.about("section 5: for what is left of the CODE of b: all of it, if no BREAK or RETURN leads out of it");
        for (int one = 0; one < 3 * WHOLES; one++) {
            int which = one % WHOLES;
            int s = new int[] {0, 1, 8}[one / WHOLES];
            Tower alone = new Tower();
            alone.body(MAIN, whole(alone, which));
            faults(alone);
            int n = s + alone.ofProcedure(MAIN, 3) - 2;
            Tower x = new Tower();
            int b = whole(x, which);
            int handled = x.node(CATCH, ROOT, print(x, 8), NONE);
            x.body(MAIN, behind(x, s, x.node(TRY, print(x, 7), b, handled)));
            rowsBehind(x, alone, s, at(s, n, n + 2, ROOT), at(s, n, n + 6, NONE), at(n + 2, n + 4, n + 6, NONE));
            Tower y = new Tower();
            int closes = printing(y, 9);
            y.body(MAIN, behind(y, s, y.node(USING, NONE, whole(y, which), closes)));
            rowsBehind(y, alone, s, at(s, n, n + 2, NONE), at(n + 3, n + 4, n + 5, NONE));
            Tower z = new Tower();
            handled = z.node(CATCH, ROOT, whole(z, which), NONE);
            z.body(MAIN, behind(z, s, z.node(TRY, print(z, 7), print(z, 8), handled)));
            rowsBehind(z, alone, s + 4, at(s, s + 1, s + 3, ROOT), at(s, s + 1, n + 6, NONE),
                    at(s + 3, n + 4, n + 6, NONE));
        }
        Check.about("section 5: the same of what is within a CATCH");
        int[][] singles = {{AGAIN, 0, 0}, {WRAP, ROOT, 1}, {KEEP, 0, 0}, {LINK, 0, 0}};
        for (int[] single : singles) {
            Tower x = new Tower();
            int handled = x.node(CATCH, ROOT, x.node(single[0], single[1], single[2], 0), NONE);
            x.body(MAIN, x.node(TRY, print(x, 7), print(x, 8), handled));
            rows(x, MAIN, at(0, 1, 3, ROOT), at(0, 1, 7, NONE), at(3, 5, 7, NONE));
        }
    }

    private static void rowsOfEachProcedure() {
        Check.about("promise 13: a ROW of the TABLE of each PROCEDURE");
        int[] tries = {2, 1, 0, 3, 4, 5, 6, 1};
        Tower x = new Tower();
        for (int p = 1; p <= 7; p++) {
            x.procedure(0);
        }
        for (int p = 0; p <= 7; p++) {
            int b = print(x, p);
            for (int k = 0; k < tries[p]; k++) {
                b = x.node(TRY, NONE, b, x.node(CATCH, k % 5, print(x, k), NONE));
            }
            x.body(p, b);
        }
        faults(x);
        for (int p = 0; p <= 7; p++) {
            int all = tries[p];
            int[][] due = new int[all][];
            for (int k = 0; k < all; k++) {
                due[k] = at(0, 3 * k + 1, 3 * k + 2, k % 5);
            }
            rows(x, p, due);
            int of = p;
            Check.outOfBounds("row(" + p + ", " + all + ", 0)", () -> x.row(of, all, 0));
        }
        Check.same("many(6)", x.many(6), 2 + 1 + 3 + 4 + 5 + 6 + 1);
        Check.same("digest()", x.digest(), Digest.of(x));
    }

    /** The ROWS of what is laid by itself, so many places further on, and then these. */
    private static void rowsBehind(Tower x, Tower alone, int places, int[]... due) {
        int first = alone.ofProcedure(MAIN, 4);
        int[][] all = new int[first + due.length][];
        for (int k = 0; k < first; k++) {
            all[k] = at(alone.row(MAIN, k, 0) + places, alone.row(MAIN, k, 1) + places, alone.row(MAIN, k, 2) + places,
                    alone.row(MAIN, k, 3));
        }
        System.arraycopy(due, 0, all, first, due.length);
        faults(x);
        rows(x, MAIN, all);
    }

    private static void rowsFromAndTo() {
        Check.about("section 5: out of an instruction at from, or behind it, and ahead of to");
        // b is the second and the third of four, of which the DIV by 0 is each in turn
        int[] results = {1, 0, 0, 1};
        int[][] due = {{}, {0, 9, 3}, {0, 1, 9, 3}, {0, 1, 2}};
        for (int place = 0; place < 4; place++) {
            Tower x = new Tower();
            int[] parts = new int[4];
            for (int k = 0; k < 4; k++) {
                parts[k] = k == place ? x.node(DIV, 0, 0, 0) : print(x, k);
            }
            int tried = caught(x, x.node(SEQ, 0, parts[1], parts[2]), ROOT, print(x, 9));
            x.body(0, seq(x, parts[0], tried, parts[3]));
            rows(x, 0, at(1, 3, 4, ROOT));
            Check.same("run(), the DIV at " + place, x.run(), results[place]);
            prints(x, due[place]);
        }
        Check.about("section 5: neither the FINALLY behind b, nor a CATCH, is in the ROWS of the CATCHES of its TRY");
        Tower y = new Tower();
        int handled = y.node(CATCH, ROOT, y.node(DIV, 0, 0, 0), NONE);
        y.body(0, y.node(TRY, print(y, 2), y.node(DIV, 0, 0, 0), handled));
        Check.same("run()", y.run(), 1);
        Check.same("ofRun(2)", y.ofRun(2), 1);
        prints(y, 2);
        y.body(0, y.node(TRY, y.node(DIV, 0, 0, 0), print(y, 1), y.node(CATCH, ROOT, print(y, 2), NONE)));
        Check.same("run()", y.run(), 1);
        prints(y, 1);
    }

    private static void firstRowThatFits() {
        Check.about("section 5: goes to at, if it is AT OR BELOW the CLASS; the first ROW that fits counts");
        int[][] due = {{ZERO, 1}, {5, 1}, {6, 1}, {7, 2}, {RING, 3}, {ROOT, 4}, {EMPTY, 4}};
        for (int[] one : due) {
            Tower x = new Tower();
            x.kind(ZERO, false);
            x.kind(5, false);
            x.kind(ROOT, false);
            int third = x.node(CATCH, RING, print(x, 3), NONE);
            int second = x.node(CATCH, 7, print(x, 2), third);
            int first = x.node(CATCH, ZERO, print(x, 1), second);
            int inner = x.node(TRY, NONE, x.node(THROW, one[0], 0, 0), first);
            x.body(0, caught(x, inner, ROOT, print(x, 4)));
            rows(x, 0, at(0, 1, 2, ZERO), at(0, 1, 5, 7), at(0, 1, 8, RING), at(0, 10, 11, ROOT));
            Check.same("run()", x.run(), 0);
            prints(x, one[1]);
        }
        Check.about("section 5: a CLASS below that of the CATCH alone does not fit");
        Tower y = new Tower();
        y.kind(ZERO, false);
        y.body(0, caught(y, y.node(THROW, ZERO, 0, 0), 5, print(y, 1)));
        Check.same("run()", y.run(), 1);
        prints(y);
    }

    private static void rowsInOrder() {
        Check.about("section 5: ROWS are laid down as their TRY or USING is through, those in it ahead of it");
        Tower x = new Tower();
        int p = printing(x, 8);
        int used = x.node(USING, NONE, print(x, 1), p);
        int inCatch = caught(x, print(x, 2), ZERO, print(x, 3));
        int inFinally = caught(x, print(x, 4), RING, print(x, 5));
        x.body(0, x.node(TRY, inFinally, used, x.node(CATCH, EMPTY, inCatch, NONE)));
        // USING 0 to 6; FINALLY 7 to 10, SKIP; CAUGHT 12; TRY 13 to 16; FINALLY 17 to 20, SKIP; CAUGHT 22; FINALLY 23
        rows(x, 0, at(0, 1, 3, NONE), at(4, 5, 6, NONE), at(7, 8, 9, RING), at(13, 14, 15, ZERO), at(17, 18, 19, RING),
                at(23, 24, 25, RING), at(0, 7, 12, EMPTY), at(0, 7, 22, NONE), at(12, 17, 22, NONE));
    }

    private static void manyRows() {
        Check.about("section 5: CATCH by CATCH, piece by piece: 13 CATCHES and 21 pieces");
        Tower x = new Tower();
        for (int kind = 5; kind <= 12; kind++) {
            x.kind(ROOT, false);
        }
        int b = print(x, 0);
        for (int k = 0; k < 20; k++) {
            b = x.node(SEQ, 0, x.node(IF, 0, returned(x, k), NONE), b);
        }
        int next = NONE;
        for (int kind = 0; kind <= 12; kind++) {
            next = x.node(CATCH, kind, print(x, kind), next);
        }
        x.body(0, x.node(TRY, NONE, b, next));
        faults(x);
        Check.same("ofProcedure(0, 3)", x.ofProcedure(0, 3), 62 + 13 * 3 - 1 + 2);
        Check.same("ofProcedure(0, 4)", x.ofProcedure(0, 4), 273);
        Check.same("many(6)", x.many(6), 273);
        for (int k = 0; k < 273; k++) {
            int piece = k % 21;
            int[] due = {3 * piece, piece < 20 ? 3 * piece + 2 : 61, 62 + k / 21 * 3, 12 - k / 21};
            for (int what = 0; what <= 3; what++) {
                Check.same("row(0, " + k + ", " + what + ")", x.row(0, k, what), due[what]);
            }
        }
        Check.outOfBounds("row(0, 273, 0)", () -> x.row(0, 273, 0));
        Check.outOfBounds("row(0, -1, 0)", () -> x.row(0, NONE, 0));
        Check.same("run()", x.run(), 0);
        x.prune(true);
        rows(x, 0);
    }

    private static void manyUsings() {
        Check.about("section 5: a FINALLY of 20 USINGS around a RETURN, laid 11 times, for the pieces of two TRYS around it");
        Tower x = new Tower();
        int p = printing(x, 8);
        int last = x.node(IF, 0, returned(x, 7), NONE);
        for (int k = 0; k < 20; k++) {
            last = x.node(USING, p, last, NONE);
        }
        int b = x.node(DIV, 0, 0, 0);
        for (int k = 0; k < 9; k++) {
            b = x.node(SEQ, 0, x.node(IF, 109 - k, returned(x, k), NONE), b);
        }
        int middle = caught(x, x.node(TRY, last, b, NONE), RING, print(x, 5));
        x.body(0, caught(x, middle, ROOT, print(x, 6)));
        faults(x);
        Check.same("ofProcedure(0, 3)", x.ofProcedure(0, 3), 292);
        int[][] due = new int[34][];
        for (int k = 0; k < 9; k++) {
            due[k] = at(26 * k, 26 * k + 2, 259, NONE);
            due[10 + k] = at(26 * k, 26 * k + 24, 285, RING);
            due[22 + k] = at(26 * k, 26 * k + 24, 288, ROOT);
        }
        due[9] = at(234, 235, 259, NONE);
        due[19] = at(234, 257, 285, RING);
        due[20] = at(258, 282, 285, RING);
        due[21] = at(283, 284, 285, RING);
        due[31] = at(234, 257, 288, ROOT);
        due[32] = at(258, 282, 288, ROOT);
        due[33] = at(283, 287, 288, ROOT);
        rows(x, 0, due);
        Check.same("run()", x.run(), 0);
        Check.same("ofRun(4)", x.ofRun(4), 20 + 1);
        Check.same("the last one PRINTED", x.printed(20, 0), 6);
    }

    private static void emptyPieces() {
        Check.about("section 5: pieces without an instruction are left out");
        Tower x = new Tower();
        x.body(0, x.node(LOOP, 0, caught(x, broken(x), ROOT, print(x, 1)), 0));
        rows(x, 0);
        // of one instruction: ahead of the GAP, and behind it
        int b = x.node(SEQ, 0, x.node(IF, 0, broken(x), NONE), print(x, 2));
        x.body(0, x.node(LOOP, 0, caught(x, b, ROOT, print(x, 1)), 0));
        rows(x, 0, at(2, 3, 6, ROOT), at(4, 5, 6, ROOT));
        // two at the end
        int c = x.node(SEQ, 0, x.node(IF, 0, broken(x), NONE), seq(x, print(x, 2), print(x, 3)));
        x.body(0, x.node(LOOP, 0, caught(x, c, ROOT, print(x, 1)), 0));
        rows(x, 0, at(2, 3, 7, ROOT), at(4, 6, 7, ROOT));
        // the GAP is the last one of b, and of the CATCH
        int handled = x.node(CATCH, ROOT, returned(x, 1), NONE);
        x.body(0, x.node(TRY, print(x, 9), returned(x, 2), handled));
        rows(x, 0, at(0, 1, 5, ROOT), at(0, 1, 11, NONE), at(5, 7, 11, NONE));
        // a USING all of whose b is a GAP
        int p = printing(x, 8);
        x.body(0, x.node(LOOP, 0, x.node(USING, NONE, broken(x), p), 0));
        rows(x, 0, at(7, 8, 9, NONE));
    }

    // ---- PRUNE

    private static void prune() {
        Check.about("promise 11: whether PRUNE is on from now on (it is not, at first); returns whether it was");
        Tower x = shortest();
        Check.same("many(9)", x.many(9), 0);
        Check.same("prune(false)", x.prune(false), false);
        Check.same("prune(true)", x.prune(true), false);
        Check.same("many(9)", x.many(9), 1);
        Check.same("prune(true)", x.prune(true), true);
        Check.same("many(9)", x.many(9), 1);
        Check.same("prune(false)", x.prune(false), true);
        Check.same("many(9)", x.many(9), 0);
        Check.about("promise 11: it changes nothing of what a run does");
        for (Tower y : new Tower[] {RAN.get(), RAN.get()}) {
            int rows = y.ofProcedure(0, 4);
            int length = y.ofProcedure(0, 3);
            y.prune(true);
            Check.same("the latest run", y.ofRun(3), 13);
            Check.same("run()", y.run(), 1);
            ofRun(y, 1, 0, 2, 13, 2, 4, 3, 2, 1, 2);
            prints(y, 1, 7);
            Check.same("length", y.ofProcedure(0, 3), length);
            Check.same("ROWS", y.ofProcedure(0, 4), rows);
        }
    }

    private static void pruneByInstruction() {
        Check.about("section 5, PRUNE: a piece in which no instruction is one of 3, 9, 10, 12, 13, 15 to 19");
        int[][] nodes = {{SET, 0, 0, 0}, {ADD, 0, 0, 0}, {DIV, 0, 1, 1}, {PRINT, 0, 0, 0}, {CALL, 0, 0, 1}, {THROW, 0, 0, 1},
            {AGAIN, 0, 0, 1}, {WRAP, 0, 0, 1}, {KEEP, 0, 0, 0}, {LINK, 0, 0, 1}, {THROWN, 0, 0, 1}};
        for (int[] one : nodes) {
            for (int place = 0; place < 3; place++) {
                Tower x = new Tower();
                int[] parts = {print(x, 1), print(x, 2), print(x, 3)};
                parts[place] = x.node(one[0], one[1], one[2], 0);
                boolean isLast = x.ofNode(parts[place], 6) == 1;
                int b = isLast && place == 0 ? parts[0] : isLast && place == 1 ? x.node(SEQ, 0, parts[0], parts[1]) : seq(x, parts);
                int inner = caught(x, b, ROOT, print(x, 0));
                x.body(0, caught(x, print(x, 0), ROOT, inner));
                x.prune(true);
                Check.same("ROWS with sort " + one[0] + " at " + place, x.ofProcedure(0, 4), one[3]);
                x.prune(false);
                Check.same("ROWS without PRUNE", x.ofProcedure(0, 4), 2);
            }
        }
    }

    private static void prunePieces() {
        Check.about("section 5, PRUNE: UNLESS, SKIP, HOLD, TURN, CAUGHT and KEEP do not keep a piece");
        Tower x = new Tower();
        int b = seq(x, x.node(IF, 0, print(x, 1), print(x, 2)), x.node(LOOP, 0, print(x, 3), 0), returned(x, 1));
        x.body(0, x.node(TRY, print(x, 9), b, x.node(CATCH, ROOT, x.node(KEEP, 0, 0, 0), NONE)));
        Check.same("without PRUNE", x.ofProcedure(0, 4), 3);
        x.prune(true);
        rows(x, 0);
        Check.same("many(6)", x.many(6), 0);
        Check.about("section 5, PRUNE: OPEN alone, and CLOSE alone, keep it");
        int p = printing(x, 8);
        x.body(0, caught(x, x.node(USING, p, print(x, 1), NONE), ROOT, print(x, 2)));
        rows(x, 0, at(0, 2, 3, ROOT));
        int used = x.node(USING, NONE, broken(x), p);
        x.body(0, x.node(LOOP, 0, caught(x, used, ROOT, print(x, 1)), 0));
        rows(x, 0, at(7, 8, 9, NONE), at(2, 3, 11, ROOT), at(4, 10, 11, ROOT));
        Check.about("section 5, PRUNE: AGAIN alone keeps it; each piece by itself");
        int inner = x.node(TRY, broken(x), print(x, 1), NONE);
        x.body(0, x.node(LOOP, 0, caught(x, inner, ROOT, print(x, 2)), 0));
        rows(x, 0, at(7, 8, 9, ROOT));
        x.prune(false);
        rows(x, 0, at(2, 3, 5, NONE), at(2, 3, 9, ROOT), at(4, 6, 9, ROOT), at(7, 8, 9, ROOT));
    }
}
