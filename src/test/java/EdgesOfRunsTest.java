/** The sentences of the document that name an edge, of section 4, as in EdgesOfTellingTest. */
public final class EdgesOfRunsTest extends Tests {
    private static final int END = 0, THROWS = 1, BREAKS = 2, RETURNS = 3;
    private static final int INNER_CATCH = 4;

    private EdgesOfRunsTest() {
    }

    public static void main(String[] args) {
        gives();
        divisionByNought();
        thrownOfASlot();
        linkToNone();
        linkOfItself();
        linkRing();
        linkToOther();
        caughtWithin();
        linkOfEachNumber();
        suppressedWithin();
        opensAndClosesGiveNothing();
        deepByCall();
        deepByUsing();
        deepest();
        overflowIsCaught();
        numberedAsMade();
        firstCatch();
        finallyInEachWay();
        usingInEachWay();
        usingOpens();
        usingTheSame();
        returnReckons();
        breakInnermost();
        steps();
        cutOff();
        mostSteps();
        cutOffKeeps();
        traceOfSix();
        traceOfSixUsings();
        traceOfUsing();
        traceOfSpecial();
        Check.end();
    }

    private static int returned(Tower x, int operand) {
        return x.node(RETURN, 0, operand, 0);
    }

    private static int caught(Tower x, int b, int kind, int inCatch) {
        return x.node(TRY, NONE, b, x.node(CATCH, kind, inCatch, NONE));
    }

    private static int turns(Tower x, int times, int b) {
        return seq(x, x.node(SET, 9, times, 0), x.node(LOOP, 9, x.node(SEQ, 0, x.node(ADD, 9, -1, 0), b), 0));
    }

    // ---- what is thrown

    private static void gives() {
        Check.about("section 4: a PROCEDURE gives what its RETURN says, otherwise 0");
        for (int number : new int[] {-99, -1, 0, 1, 99}) {
            Tower x = new Tower();
            int p = x.procedure(0);
            x.body(p, returned(x, number));
            x.body(0, seq(x, x.node(SET, 3, 7, 0), x.node(CALL, 3, p, 0), print(x, 103), returned(x, 103)));
            x.run();
            prints(x, number);
            Check.same("ofRun(1)", x.ofRun(1), number);
        }
        Tower x = new Tower();
        int p = printing(x, 1);
        x.body(0, seq(x, x.node(SET, 3, 7, 0), x.node(CALL, 3, p, 0)));
        x.run();
        Check.same("held(3)", x.held(3), 0);
        Check.same("ofRun(1)", x.ofRun(1), 0);
        // what OPENS and CLOSES gives goes nowhere
        int q = x.procedure(0);
        x.body(q, returned(x, 5));
        int sets = x.node(SET, 0, 7, 0);
        for (int v = 1; v < 10; v++) {
            sets = x.node(SEQ, 0, sets, x.node(SET, v, 7, 0));
        }
        x.body(0, x.node(SEQ, 0, sets, x.node(USING, q, print(x, 1), q)));
        x.run();
        for (int v = 0; v < 10; v++) {
            Check.same("held(" + v + ")", x.held(v), 7);
        }
    }

    private static void divisionByNought() {
        Check.about("section 4: DIV by 0 throws ZERO, with the number 0");
        for (int number = -2; number <= 2; number++) {
            Tower x = new Tower();
            int div = x.node(DIV, 4, number, 0);
            x.body(0, seq(x, x.node(SET, 4, 9, 0), caught(x, div, ZERO, print(x, 104)), print(x, 50)));
            Check.same("run()", x.run(), 0);
            Check.same("ofRun(6)", x.ofRun(6), number == 0 ? 1 : 0);
            Check.same("held(4)", x.held(4), number == 0 ? 9 : 9 / number);
            if (number == 0) {
                prints(x, 9, 50);
                exception(x, 0, ZERO, 0, NONE, 0, 1);
                trace(x, 0, div);
            } else {
                prints(x, 50);
            }
            x.body(0, seq(x, x.node(SET, 4, 9, 0), x.node(SET, 5, number, 0), x.node(DIV, 4, 105, 0)));
            Check.same("run() with a VARIABLE", x.run(), number == 0 ? 1 : 0);
            Check.same("held(4)", x.held(4), number == 0 ? 9 : 9 / number);
        }
        Tower x = new Tower();
        x.body(0, x.node(DIV, 0, 100, 0));
        Check.same("0 by 0", x.run(), 1);
        Check.same("ofKind(3, 4)", x.ofKind(ZERO, 4), 1);
    }

    private static void thrownOfASlot() {
        Check.about("section 4: THROWN of a SLOT that holds none throws EMPTY, with the number 0");
        for (int slot = 0; slot < 4; slot++) {
            Tower x = new Tower();
            int thrown = x.node(THROWN, slot, 0, 0);
            x.body(0, thrown);
            Check.same("run()", x.run(), 1);
            exception(x, 0, EMPTY, 0, NONE, 0, 1);
            trace(x, 0, thrown);
            Check.same("held(" + (10 + slot) + ")", x.held(10 + slot), NONE);
            int again = x.node(THROWN, slot, 0, 0);
            int first = x.node(THROW, RING, 5, 0);
            x.body(0, seq(x, caught(x, first, ROOT, x.node(KEEP, slot, 0, 0)), again));
            Check.same("run()", x.run(), 1);
            Check.same("what was held", x.ofRun(2), 0);
            Check.same("none is made", x.ofRun(6), 1);
            trace(x, 0, first);
            // of another SLOT
            int other = x.node(THROWN, (slot + 1) % 4, 0, 0);
            x.body(0, seq(x, caught(x, x.node(THROW, RING, 5, 0), ROOT, x.node(KEEP, slot, 0, 0)), other));
            x.run();
            Check.same("ofRun(2)", x.ofRun(2), 1);
            exception(x, 1, EMPTY, 0, NONE, 0, 1);
        }
    }

    private static void linkToNone() {
        Check.about("section 2, LINK: nothing is done if it holds none");
        for (int slot = 0; slot < 4; slot++) {
            Tower x = new Tower();
            int handled = seq(x, x.node(LINK, slot, 0, 0), print(x, 1));
            x.body(0, caught(x, x.node(THROW, RING, 5, 0), ROOT, handled));
            Check.same("run()", x.run(), 0);
            prints(x, 1);
            exception(x, 0, RING, 5, NONE, 0, 1);
            Check.same("ofRun(6)", x.ofRun(6), 1);
        }
        Check.about("section 2, LINK: a CAUSE that is there stays, if the SLOT holds none");
        Tower x = new Tower();
        int wrapped = caught(x, x.node(THROW, RING, 5, 0), ROOT, x.node(WRAP, ZERO, 6, 0));
        x.body(0, caught(x, wrapped, ZERO, x.node(LINK, 0, 0, 0)));
        x.run();
        exception(x, 1, ZERO, 6, 0, 0, 1);
    }

    private static void linkOfItself() {
        Check.about("section 4: LINK throws RING (and does nothing else), if what was caught is what the SLOT holds");
        Tower x = new Tower();
        int link = x.node(LINK, 2, 0, 0);
        int handled = seq(x, x.node(KEEP, 2, 0, 0), link, print(x, 1));
        x.body(0, caught(x, caught(x, x.node(THROW, EMPTY, 5, 0), EMPTY, handled), RING, print(x, 2)));
        Check.same("run()", x.run(), 0);
        prints(x, 2);
        exception(x, 0, EMPTY, 5, NONE, 0, 1);
        exception(x, 1, RING, 0, NONE, 0, 1);
        trace(x, 1, link);
        Check.same("held(12)", x.held(12), 0);
    }

    /**
     * A row of EXCEPTIONS, each the CAUSE of the next one, the last of which the SLOT 0 holds; that which is the CAUSE
     * at so many steps from there is then caught, and LINKS that SLOT. 0: the one of the SLOT itself; 4: another one.
     */
    private static Tower linked(int steps) {
        Tower x = new Tower();
        // the SLOT 1 holds what is to be caught
        int wrapped = x.node(THROW, ROOT, 10, 0);
        for (int k = 3; k >= 0; k--) {
            int kept = x.node(KEEP, k == steps ? 1 : 2, 0, 0);
            int then = k == 0 ? x.node(KEEP, 0, 0, 0) : x.node(WRAP, ROOT, 10 + k, 0);
            wrapped = caught(x, wrapped, ROOT, x.node(SEQ, 0, kept, then));
        }
        int keepAll = wrapped;
        if (steps == 4) {
            keepAll = x.node(SEQ, 0, wrapped, caught(x, x.node(THROW, ROOT, 9, 0), ROOT, x.node(KEEP, 1, 0, 0)));
        }
        int linking = caught(x, x.node(THROWN, 1, 0, 0), ROOT, x.node(SEQ, 0, x.node(LINK, 0, 0, 0), print(x, 1)));
        x.body(0, x.node(SEQ, 0, keepAll, caught(x, linking, RING, print(x, 2))));
        x.run();
        return x;
    }

    private static void linkRing() {
        Check.about("section 4, LINK: or is the CAUSE of that, or of its CAUSE, and so on");
        for (int steps = 0; steps <= 4; steps++) {
            Tower x = linked(steps);
            Check.same("ofRun(0) at " + steps, x.ofRun(0), 0);
            prints(x, steps == 4 ? 1 : 2);
            Check.same("ofRun(6)", x.ofRun(6), 5);
            for (int e = 0; e < 4; e++) {
                Check.same("exception(" + e + ", 2)", x.exception(e, 2), e - 1);
            }
            Check.same("exception(4, 0)", x.exception(4, 0), steps == 4 ? ROOT : RING);
            Check.same("exception(4, 2)", x.exception(4, 2), steps == 4 ? 3 : NONE);
            Check.same("what was caught", x.held(11), steps == 4 ? 4 : 3 - steps);
        }
    }

    private static void linkToOther() {
        Check.about("section 2, LINK: what the SLOT holds becomes the CAUSE of what was caught, in place of one before");
        Tower x = new Tower();
        int first = caught(x, x.node(THROW, ROOT, 1, 0), ROOT, x.node(KEEP, 0, 0, 0));
        int wrapped = caught(x, x.node(THROW, ROOT, 2, 0), ROOT, x.node(WRAP, ZERO, 3, 0));
        int link = x.node(SEQ, 0, x.node(LINK, 0, 0, 0), x.node(LINK, 0, 0, 0));
        x.body(0, x.node(SEQ, 0, first, caught(x, wrapped, ZERO, link)));
        Check.same("run()", x.run(), 0);
        exception(x, 0, ROOT, 1, NONE, 0, 1);
        exception(x, 1, ROOT, 2, NONE, 0, 1);
        exception(x, 2, ZERO, 3, 0, 0, 1);
        Check.same("ofRun(6)", x.ofRun(6), 3);
    }

    /**
     * Four CATCHES within each other, of the EXCEPTIONS 1 to 4; in the one at that level a NODE of this sort is run,
     * ahead of the TRY within, or behind that. The SLOT 1 holds the EXCEPTION 0.
     */
    private static Tower within(int level, boolean isBehind, int sort, int a, int b) {
        Tower x = new Tower();
        int first = caught(x, x.node(THROW, EMPTY, 9, 0), ROOT, x.node(KEEP, 1, 0, 0));
        int inner = print(x, 0);
        for (int k = 4; k >= 1; k--) {
            if (k == level) {
                int maybe = x.node(IF, 1, x.node(sort, a, b, 0), NONE);
                inner = isBehind ? x.node(SEQ, 0, inner, maybe) : x.node(SEQ, 0, maybe, inner);
            }
            inner = caught(x, x.node(THROW, ROOT, 10 + k, 0), ROOT, inner);
        }
        x.body(0, x.node(SEQ, 0, first, inner));
        x.run();
        return x;
    }

    private static void caughtWithin() {
        Check.about("section 2, within a CATCH (the innermost one around, in whose b it is): what was caught");
        for (int place = 2; place <= 9; place++) {
            int level = place / 2;
            boolean isBehind = place % 2 == 1;
            int made = isBehind ? 5 : level + 1;
            Tower again = within(level, isBehind, AGAIN, 0, 0);
            ofRun(again, 1, 0, level);
            Check.same("AGAIN, ofRun(6)", again.ofRun(6), made);
            Tower wrap = within(level, isBehind, WRAP, RING, 7);
            ofRun(wrap, 1, 0, made);
            exception(wrap, made, RING, 7, level, 0, 1);
            Tower keep = within(level, isBehind, KEEP, 0, 0);
            ofRun(keep, 0, 0, NONE);
            Check.same("KEEP, held(10)", keep.held(10), level);
            Tower link = within(level, isBehind, LINK, 1, 0);
            ofRun(link, 0, 0, NONE);
            for (int e = 0; e <= 4; e++) {
                exception(link, e, e == 0 ? EMPTY : ROOT, e == 0 ? 9 : 10 + e, e == level ? 0 : NONE, 0, 1);
            }
        }
    }

    private static void linkOfEachNumber() {
        Check.about("section 4, LINK throws RING, whatever the number of the EXCEPTION is");
        for (int before = 0; before <= 24; before++) {
            Tower x = new Tower();
            int other = caught(x, x.node(THROW, ROOT, 0, 0), ROOT, x.node(ADD, 9, -1, 0));
            int others = x.node(SEQ, 0, x.node(SET, 9, before, 0), x.node(LOOP, 9, other, 0));
            int link = x.node(LINK, 0, 0, 0);
            int handled = x.node(SEQ, 0, x.node(KEEP, 0, 0, 0), link);
            x.body(0, x.node(SEQ, 0, others, caught(x, x.node(THROW, EMPTY, 5, 0), ROOT, handled)));
            Check.same("run()", x.run(), 1);
            Check.same("ofRun(2)", x.ofRun(2), before + 1);
            exception(x, before, EMPTY, 5, NONE, 0, 1);
            exception(x, before + 1, RING, 0, NONE, 0, 1);
            trace(x, before + 1, link);
        }
    }

    private static void suppressedWithin() {
        Check.about("section 4, USING: beneath what b was left by, also within a CATCH and behind one");
        for (int catches = 0; catches <= 4; catches++) {
            Tower x = new Tower();
            int closes = throwing(x, ZERO, 6);
            int inner = x.node(USING, NONE, x.node(THROW, RING, 5, 0), closes);
            for (int k = 0; k < catches; k++) {
                inner = caught(x, x.node(THROW, ROOT, k, 0), ROOT, inner);
            }
            x.body(0, inner);
            Check.same("run()", x.run(), 1);
            Check.same("ofRun(2)", x.ofRun(2), catches);
            Check.same("ofRun(8)", x.ofRun(8), 1);
            for (int e = 0; e < catches; e++) {
                exception(x, e, ROOT, catches - 1 - e, NONE, 0, 1);
            }
            exception(x, catches, RING, 5, NONE, 1, 1);
            exception(x, catches + 1, ZERO, 6, NONE, 0, 2);
            Check.same("suppressed(..)", x.suppressed(catches, 0), catches + 1);
        }
    }

    private static void opensAndClosesGiveNothing() {
        Check.about("section 2, USING: what it CALLS gives is held by no VARIABLE");
        for (int number = 2; number <= 12; number++) {
            Tower x = new Tower();
            int p = x.procedure(0);
            x.body(p, x.node(RETURN, 0, 7, 0));
            while (x.many(2) < number - 1) {
                print(x, 0);
            }
            int using = x.node(USING, p, x.node(SET, 9, 0, 0), p);
            Check.same("the USING", using, number);
            x.body(0, using);
            Check.same("run()", x.run(), 0);
            Check.same("ofRun(5)", x.ofRun(5), 3);
            for (int v = 0; v < 10; v++) {
                Check.same("held(" + v + ")", x.held(v), 0);
            }
        }
    }

    // ---- DEEP

    /** MAIN and PROCEDURES that CALL each other: so many are run in each other, if DEEP is not below that. */
    private static Tower nested(int depth) {
        Tower x = new Tower();
        if (depth == 1) {
            x.body(0, print(x, 7));
            return x;
        }
        int p = x.procedure(0);
        int deeper = seq(x, x.node(ADD, 0, -1, 0), x.node(CALL, 1, p, 0));
        x.body(p, x.node(IF, 100, deeper, print(x, 7)));
        x.body(0, seq(x, x.node(SET, 0, depth - 2, 0), x.node(CALL, 1, p, 0)));
        return x;
    }

    private static void deepByCall() {
        Check.about("section 4: a CALL that would make more than DEEP PROCEDURES that are run in each other");
        for (int deep : new int[] {1, 2, 3, 9, 10, 11, 28, 29, 30}) {
            for (int depth = Math.max(1, deep - 1); depth <= deep + 1; depth++) {
                Tower x = nested(depth);
                x.limits(3000, deep);
                boolean isTooDeep = depth > deep;
                Check.same("run() of " + depth + " with " + deep, x.run(), isTooDeep ? 1 : 0);
                Check.same("ofRun(5)", x.ofRun(5), Math.min(depth, deep));
                Check.same("ofRun(6)", x.ofRun(6), isTooDeep ? 1 : 0);
                Check.same("ofRun(7)", x.ofRun(7), Math.min(depth, deep));
                Check.same("ofRun(4)", x.ofRun(4), isTooDeep ? 0 : 1);
                Check.same("wouldRun(3000, deep, 7)", x.wouldRun(3000, deep, 7), Math.min(depth, deep));
                if (isTooDeep) {
                    Check.same("exception(0, 0)", x.exception(0, 0), OVERFLOW);
                    Check.same("exception(0, 1)", x.exception(0, 1), 0);
                    Check.same("exception(0, 2)", x.exception(0, 2), NONE);
                }
            }
        }
        Check.about("section 4: DEEP is 10, at first");
        for (int depth = 9; depth <= 11; depth++) {
            Tower x = nested(depth);
            Check.same("run() of " + depth, x.run(), depth == 11 ? 1 : 0);
            Check.same("ofRun(7)", x.ofRun(7), Math.min(10, depth));
        }
    }

    private static void deepByUsing() {
        Check.about("section 4: a CALL (as one OPENS and CLOSES, too)");
        Tower x = new Tower();
        int p = printing(x, 1);
        int deeper = x.procedure(0);
        x.body(deeper, x.node(CALL, 0, p, 0));
        int opened = x.node(USING, deeper, print(x, 5), NONE);
        int closed = x.node(USING, NONE, print(x, 5), deeper);
        for (int used : new int[] {opened, closed}) {
            x.body(0, used);
            for (int deep = 1; deep <= 4; deep++) {
                x.limits(100, deep);
                Check.same("run() with " + deep, x.run(), deep < 3 ? 1 : 0);
                Check.same("ofRun(5)", x.ofRun(5), Math.min(deep, 3));
                Check.same("ofRun(6)", x.ofRun(6), deep < 3 ? 1 : 0);
                int[] due = used == opened ? at(1, 5) : at(5, 1);
                prints(x, deep >= 3 ? due : used == opened ? at() : at(5));
                if (deep < 3) {
                    Check.same("exception(0, 0)", x.exception(0, 0), OVERFLOW);
                    Check.same("trace(0, 0)", x.trace(0, 0), deep == 1 ? used : x.ofProcedure(deeper, 1));
                }
            }
        }
        // closing behind an EXCEPTION: the OVERFLOW is SUPPRESSED beneath it
        x.body(0, x.node(USING, NONE, x.node(THROW, RING, 3, 0), p));
        x.limits(100, 1);
        Check.same("run()", x.run(), 1);
        ofRun(x, 1, 0, 0, 2, 0, 1, 2, 1, 1);
        Check.same("suppressed(0, 0)", x.suppressed(0, 0), 1);
        Check.same("exception(1, 0)", x.exception(1, 0), OVERFLOW);
    }

    private static void deepest() {
        Check.about("section 4: DEEP is 1 to 30: each of 30 PROCEDURES has what it caught and what it RETURNS by itself");
        Tower x = new Tower();
        int p = x.procedure(0);
        int deeper = seq(x, x.node(ADD, 0, -1, 0), x.node(CALL, 1, p, 0), x.node(AGAIN, 0, 0, 0));
        int last = x.node(IF, 100, deeper, x.node(AGAIN, 0, 0, 0));
        int inner = caught(x, x.node(THROW, ROOT, 100, 0), ROOT, last);
        x.body(p, caught(x, inner, ROOT, x.node(SEQ, 0, x.node(KEEP, 0, 0, 0), x.node(ADD, 2, 1, 0))));
        x.body(0, seq(x, x.node(SET, 0, 28, 0), x.node(CALL, 1, p, 0)));
        x.tell(p, 1);
        x.tell(0, 1);
        x.limits(3000, 30);
        Check.same("run()", x.run(), 0);
        Check.same("ofRun(7)", x.ofRun(7), 30);
        Check.same("ofRun(6)", x.ofRun(6), 29);
        Check.same("held(2)", x.held(2), 29);
        Check.same("the one that the outermost of them caught", x.held(10), 0);
        x.limits(3000, 29);
        Check.same("run()", x.run(), 0);
        Check.same("with an OVERFLOW, ofRun(6)", x.ofRun(6), 29);
        Check.same("exception(28, 0)", x.exception(28, 0), OVERFLOW);
        Check.same("held(2)", x.held(2), 28);
    }

    private static void overflowIsCaught() {
        Check.about("section 4: throws OVERFLOW, in place of it: the VARIABLE stays, and one goes on there");
        Tower x = new Tower();
        int p = printing(x, 1);
        int call = x.node(CALL, 3, p, 0);
        x.body(0, seq(x, x.node(SET, 3, 8, 0), caught(x, call, OVERFLOW, print(x, 103)), x.node(CALL, 4, p, 0)));
        x.limits(100, 1);
        Check.same("run()", x.run(), 1);
        prints(x, 8);
        ofRun(x, 1, 0, 1, 8, 1, 1, 2, 1, 0);
        Check.same("ofProcedure(p, 5)", x.ofProcedure(p, 5), 0);
    }

    // ---- EXCEPTIONS, TRY, USING

    private static void numberedAsMade() {
        Check.about("section 4: EXCEPTIONS are numbered from 0, as they are made");
        Tower x = new Tower();
        int parts = caught(x, x.node(THROW, ROOT, 50, 0), ROOT, print(x, 0));
        parts = x.node(SEQ, 0, parts, caught(x, x.node(DIV, 0, 0, 0), ROOT, print(x, 1)));
        parts = x.node(SEQ, 0, parts, caught(x, x.node(THROWN, 0, 0, 0), ROOT, print(x, 2)));
        int wrapped = caught(x, x.node(THROW, RING, 51, 0), ROOT, x.node(WRAP, ZERO, 52, 0));
        x.body(0, x.node(SEQ, 0, parts, wrapped));
        Check.same("run()", x.run(), 1);
        int[][] due = {{ROOT, 50, NONE}, {ZERO, 0, NONE}, {EMPTY, 0, NONE}, {RING, 51, NONE}, {ZERO, 52, 3}};
        for (int e = 0; e < due.length; e++) {
            exception(x, e, due[e]);
        }
        Check.same("ofRun(6)", x.ofRun(6), 5);
        Check.same("ofRun(2)", x.ofRun(2), 4);
    }

    private static void firstCatch() {
        Check.about("section 4, TRY: the first CATCH of a CLASS AT OR BELOW which its CLASS is; none: it goes on");
        // 5 below ROOT, 6 below 5, 7 below 6
        int[][] due = {{5, 1}, {6, 1}, {7, 1}, {ROOT, 9}, {ZERO, 2}, {RING, 9}};
        for (int[] one : due) {
            Tower x = new Tower();
            for (int parent : new int[] {ROOT, 5, 6}) {
                x.kind(parent, false);
            }
            int second = x.node(CATCH, ZERO, print(x, 2), NONE);
            int first = x.node(CATCH, 5, print(x, 1), second);
            int tried = x.node(TRY, NONE, x.node(THROW, one[0], 4, 0), first);
            x.body(0, caught(x, tried, ROOT, print(x, 9)));
            Check.same("run()", x.run(), 0);
            prints(x, one[1]);
            Check.same("ofRun(3)", x.ofRun(3), 5);
            Check.same("none of another is begun", x.ofNode(first, 7) + x.ofNode(second, 7), one[1] == 9 ? 0 : 1);
        }
        Check.about("section 4, TRY: what a CATCH throws is for none of the same TRY");
        Tower x = new Tower();
        int second = x.node(CATCH, ROOT, print(x, 2), NONE);
        int first = x.node(CATCH, ZERO, x.node(THROW, RING, 4, 0), second);
        x.body(0, x.node(TRY, NONE, x.node(DIV, 0, 0, 0), first));
        Check.same("run()", x.run(), 1);
        prints(x);
    }

    /** One way in which a STATEMENT is left. */
    private static int left(Tower x, int way, int number) {
        switch (way) {
            case END:
                return x.node(SET, 5, number, 0);
            case THROWS:
                return x.node(THROW, number == 1 ? ZERO : EMPTY, number, 0);
            case BREAKS:
                return x.node(BREAK, 0, 0, 0);
            default:
                return returned(x, 60 + number);
        }
    }

    /** Twice in a LOOP, and 40 is PRINTED behind it; 50 behind the LOOP, and 60 is given then. */
    private static void inLoop(Tower x, int statement) {
        int b = x.node(SEQ, 0, x.node(IF, 1, statement, NONE), print(x, 40));
        x.body(0, seq(x, turns(x, 2, b), print(x, 50), returned(x, 60)));
    }

    /** That way was taken, and 30 was PRINTED ahead of it. */
    private static void wentOn(Tower x, String call, int way, int number) {
        Check.same(call + ", run()", x.run(), way == THROWS ? 1 : 0);
        Check.same(call + ", ofRun(1)", x.ofRun(1), way == THROWS ? 0 : way == RETURNS ? 60 + number : 60);
        int[] due = way == END ? at(30, 40, 30, 40, 50) : way == BREAKS ? at(30, 50) : at(30);
        Check.about(call);
        prints(x, due);
        if (way == THROWS && x.ofRun(2) != NONE) {
            Check.same(call + ", the number of what ended it", x.exception(x.ofRun(2), 1), number);
        }
    }

    private static void finallyInEachWay() {
        Check.about("section 4: FINALLY is run as b and CATCH are left, in whatever way, and that way is gone on behind it");
        for (int way = END; way < 2 * INNER_CATCH; way++) {
            for (int last = END; last <= RETURNS; last++) {
                Tower x = new Tower();
                boolean isCaught = way >= INNER_CATCH;
                int end = x.node(IF, 1, left(x, last, 3), NONE);
                int finallyRun = x.node(SEQ, 0, print(x, 30), end);
                int b = isCaught ? x.node(THROW, RING, 9, 0) : left(x, way, 1);
                int handled = x.node(CATCH, RING, left(x, way % INNER_CATCH, 2), NONE);
                inLoop(x, x.node(TRY, finallyRun, b, handled));
                int number = last != END ? 3 : isCaught ? 2 : 1;
                int due = last != END ? last : way % INNER_CATCH;
                wentOn(x, "b or CATCH " + way + ", FINALLY " + last, due, number);
                Check.about("section 4: if FINALLY is left in another way than to its end itself, by that alone");
                Check.same("SUPPRESSED", x.ofRun(8), 0);
                for (int e = 0; e < x.ofRun(6); e++) {
                    Check.same("the CAUSE of " + e, x.exception(e, 2), NONE);
                }
            }
        }
    }

    private static void usingInEachWay() {
        for (int way = END; way <= RETURNS; way++) {
            for (int closing = END; closing <= THROWS; closing++) {
                Tower x = new Tower();
                int closes = x.procedure(0);
                x.body(closes, x.node(SEQ, 0, print(x, 30), left(x, closing, 3)));
                inLoop(x, x.node(USING, NONE, left(x, way, 1), closes));
                boolean isOf = closing == THROWS && way != THROWS;
                Check.about("section 4, USING: it CLOSES, as b is left in whatever way, and that way is gone on");
                wentOn(x, "USING b " + way + ", closing " + closing, isOf ? THROWS : way, isOf ? 3 : 1);
                Check.about("section 4, USING: if b was left by an EXCEPTION, the other one is SUPPRESSED beneath it");
                Check.same("ofRun(8)", x.ofRun(8), way == THROWS && closing == THROWS ? 1 : 0);
                if (way == THROWS) {
                    Check.same("exception(0, 3)", x.exception(0, 3), closing);
                }
            }
        }
    }

    private static void usingOpens() {
        Check.about("section 4, USING: it OPENS; as that throws, b is not begun, and it does not CLOSE");
        Tower x = new Tower();
        int p = throwing(x, ZERO, 4);
        int q = printing(x, 2);
        x.body(0, caught(x, x.node(USING, p, print(x, 3), q), ZERO, print(x, 4)));
        Check.same("run()", x.run(), 0);
        prints(x, 4);
        Check.same("ofProcedure(q, 5)", x.ofProcedure(q, 5), 0);
        Check.same("ofRun(8)", x.ofRun(8), 0);
        x.body(0, x.node(USING, q, print(x, 3), q));
        x.run();
        prints(x, 2, 3, 2);
        Check.same("ofProcedure(q, 5)", x.ofProcedure(q, 5), 2);
    }

    private static void usingTheSame() {
        Check.about("section 4, USING: the other one is SUPPRESSED beneath it (but if it is the same one)");
        for (int slot = 0; slot <= 1; slot++) {
            Tower x = new Tower();
            int other = caught(x, x.node(THROW, RING, 1, 0), ROOT, x.node(KEEP, 1, 0, 0));
            int same = x.node(SEQ, 0, x.node(KEEP, 0, 0, 0), x.node(AGAIN, 0, 0, 0));
            int closes = x.procedure(0);
            x.body(closes, x.node(THROWN, slot, 0, 0));
            int used = x.node(USING, NONE, caught(x, x.node(THROW, ZERO, 2, 0), ROOT, same), closes);
            x.body(0, x.node(SEQ, 0, other, used));
            Check.same("run()", x.run(), 1);
            Check.same("ofRun(2)", x.ofRun(2), 1);
            Check.same("ofRun(6)", x.ofRun(6), 2);
            Check.same("ofRun(8)", x.ofRun(8), slot);
            Check.same("exception(1, 3)", x.exception(1, 3), slot);
            if (slot == 1) {
                Check.same("suppressed(1, 0)", x.suppressed(1, 0), 0);
            }
        }
    }

    private static void returnReckons() {
        Check.about("section 4: RETURN reckons its X ahead of all that is run on its way");
        Tower x = new Tower();
        int closes = x.procedure(0);
        x.body(closes, x.node(SET, 0, 8, 0));
        int used = x.node(USING, NONE, returned(x, 100), closes);
        int tried = x.node(TRY, x.node(SET, 0, 9, 0), used, NONE);
        x.body(0, seq(x, x.node(SET, 0, 5, 0), tried));
        Check.same("run()", x.run(), 0);
        Check.same("ofRun(1)", x.ofRun(1), 5);
        Check.same("held(0)", x.held(0), 9);
    }

    private static void breakInnermost() {
        Check.about("section 4: BREAK ends the innermost LOOP around it in its PROCEDURE");
        Tower x = new Tower();
        int p = x.procedure(0);
        x.body(p, turns(x, 1, x.node(BREAK, 0, 0, 0)));
        int inner = seq(x, x.node(SET, 1, 1, 0), x.node(LOOP, 1, x.node(BREAK, 0, 0, 0), 0), x.node(CALL, 2, p, 0), print(x, 4));
        int outer = x.node(LOOP, 0, seq(x, x.node(ADD, 0, -1, 0), inner), 0);
        x.body(0, seq(x, x.node(SET, 0, 3, 0), outer, print(x, 5)));
        Check.same("run()", x.run(), 0);
        prints(x, 4, 4, 4, 5);
        Check.same("held(1)", x.held(1), 1);
    }

    // ---- STEPS

    private static void steps() {
        Check.about("section 4, STEPS: each NODE that is begun is one (a CATCH as it catches, a LOOP once)");
        int[][] due = {{0, 3}, {1, 4}, {2, 5}, {99, 102}};
        for (int[] one : due) {
            Tower x = new Tower();
            x.body(0, seq(x, x.node(SET, 0, one[0], 0), x.node(LOOP, 0, x.node(ADD, 0, -1, 0), 0)));
            x.limits(3000, 1);
            Check.same("run()", x.run(), 0);
            Check.same("ofRun(3) with " + one[0], x.ofRun(3), one[1]);
        }
        Tower x = new Tower();
        int last = print(x, 1);
        int uncaught = x.node(CATCH, ZERO, print(x, 2), x.node(CATCH, RING, print(x, 3), NONE));
        x.body(0, x.node(TRY, last, print(x, 4), uncaught));
        x.run();
        Check.same("TRY, b and FINALLY; no CATCH", x.ofRun(3), 3);
        int b = x.node(THROW, RING, 0, 0);
        x.body(0, print(x, 0));
        int second = x.node(CATCH, RING, print(x, 6), NONE);
        x.body(0, x.node(TRY, print(x, 7), b, x.node(CATCH, ZERO, print(x, 5), second)));
        x.run();
        Check.same("the second CATCH alone", x.ofRun(3), 5);
        Check.same("printed(0, 1)", x.printed(0, 1), 4);
        Check.same("printed(1, 1)", x.printed(1, 1), 5);
        // each ahead of its parts: the STEPS as it is PRINTED are those of all around it
        Tower y = new Tower();
        int p = printing(y, 1);
        y.body(0, seq(y, y.node(USING, p, y.node(IF, 1, print(y, 2), NONE), p), y.node(CALL, 0, p, 0)));
        y.run();
        int[] at = {3, 5, 6, 8};
        for (int k = 0; k < 4; k++) {
            Check.same("printed(" + k + ", 1)", y.printed(k, 1), at[k]);
        }
        Check.same("ofRun(3)", y.ofRun(3), 8);
    }

    private static void cutOff() {
        Check.about("section 4: as there would be more than MOST, the run is cut off (with MOST of them)");
        for (int nodes : new int[] {1, 3, 5, 7, 21}) {
            Tower x = new Tower();
            int all = print(x, 0);
            for (int k = 1; k <= nodes / 2; k++) {
                all = x.node(SEQ, 0, all, print(x, k));
            }
            x.body(0, all);
            for (int most = Math.max(1, nodes - 1); most <= nodes + 1; most++) {
                x.limits(most, 1);
                Check.same("run() of " + nodes + " with " + most, x.run(), most < nodes ? 2 : 0);
                Check.same("ofRun(3)", x.ofRun(3), Math.min(most, nodes));
                Check.same("ofRun(4)", x.ofRun(4), most < nodes ? nodes / 2 : nodes / 2 + 1);
                Check.same("wouldRun(most, 1, 3)", x.wouldRun(most, 1, 3), Math.min(most, nodes));
                Check.same("wouldRun(most, 1, 0)", x.wouldRun(most, 1, 0), most < nodes ? 2 : 0);
            }
        }
    }

    /** So many turns of 37 STEPS, 3 around them, 2 more for each pair, and 1 more. */
    private static Tower longRun(int turns, int pairs, boolean isOneMore) {
        Tower x = new Tower();
        int b = x.node(ADD, 0, -1, 0);
        for (int k = 0; k < 18; k++) {
            b = x.node(SEQ, 0, b, x.node(SET, 1, k, 0));
        }
        int set = x.node(SET, 0, turns, 0);
        int all = x.node(SEQ, 0, isOneMore ? x.node(IF, 1, set, NONE) : set, x.node(LOOP, 0, b, 0));
        for (int k = 0; k < pairs; k++) {
            all = x.node(SEQ, 0, all, x.node(SET, 2, k, 0));
        }
        x.body(0, all);
        return x;
    }

    private static void mostSteps() {
        Check.about("section 4: MOST is 1 to 3000 (800, at first)");
        Tower[] runs = {longRun(80, 18, false), longRun(81, 0, false), longRun(81, 0, true)};
        for (int k = 0; k < runs.length; k++) {
            Tower x = runs[k];
            x.limits(3000, 1);
            Check.same("run() of " + (2999 + k), x.run(), k < 2 ? 0 : 2);
            Check.same("ofRun(3)", x.ofRun(3), Math.min(3000, 2999 + k));
            x.limits(2999, 1);
            Check.same("run() of " + (2999 + k) + " with 2999", x.run(), k < 1 ? 0 : 2);
            Check.same("ofRun(3)", x.ofRun(3), 2999);
        }
        int[][] due = {{21, 9, 1, 799}, {21, 10, 0, 800}, {21, 10, 1, 801}};
        for (int[] one : due) {
            Tower x = longRun(one[0], one[1], one[2] == 1);
            Check.same("run() of " + one[3], x.run(), one[3] > 800 ? 2 : 0);
            Check.same("ofRun(3)", x.ofRun(3), Math.min(800, one[3]));
            Check.same("many(7)", x.many(7), 800);
        }
        Tower x = new Tower();
        x.body(0, x.node(SEQ, 0, x.node(SET, 0, 1, 0), x.node(LOOP, 0, x.node(SET, 1, 1, 0), 0)));
        for (int most : new int[] {1, 2, 3, 4, 2999, 3000}) {
            x.limits(most, 30);
            Check.same("run() without an end", x.run(), 2);
            Check.same("ofRun(3)", x.ofRun(3), most);
        }
    }

    private static void cutOffKeeps() {
        Check.about("section 4: a run that is cut off runs no FINALLY, and closes nothing, any more");
        Tower x = new Tower();
        int p = printing(x, 8);
        int b = seq(x, x.node(SET, 3, 4, 0), print(x, 1), print(x, 2));
        x.body(0, x.node(TRY, print(x, 7), x.node(USING, NONE, b, p), x.node(CATCH, ROOT, print(x, 6), NONE)));
        x.limits(6, 9);
        Check.same("run()", x.run(), 2);
        ofRun(x, 2, 0, NONE, 6, 1, 1, 0, 1, 0, 1);
        prints(x, 1);
        Check.same("held(3)", x.held(3), 4);
        // cut off as it CLOSES: that CALL is one
        x.limits(7, 9);
        Check.same("run()", x.run(), 2);
        ofRun(x, 2, 0, NONE, 7, 2, 2, 0, 2, 0, 2);
    }

    // ---- TRACE

    /** So many PROCEDURES, each of which CALLS the next one, and the last one throws; the NODES from inside outwards. */
    private static int[] chain(Tower x, int procedures) {
        int[] nodes = new int[procedures + 1];
        for (int p = 1; p <= procedures; p++) {
            x.procedure(0);
        }
        for (int p = 0; p <= procedures; p++) {
            int node = p == procedures ? x.node(THROW, ROOT, 1, 0) : x.node(CALL, 0, p + 1, 0);
            x.body(p, node);
            nodes[procedures - p] = node;
        }
        return nodes;
    }

    private static void traceOfSix() {
        Check.about("section 4, TRACE: the NODE that made it, then the NODES of the CALLS; the first 6 of all these");
        for (int procedures = 0; procedures <= 7; procedures++) {
            Tower x = new Tower();
            int[] nodes = chain(x, procedures);
            Check.same("run()", x.run(), 1);
            int length = Math.min(6, nodes.length);
            int[] due = new int[length];
            System.arraycopy(nodes, 0, due, 0, length);
            trace(x, 0, due);
        }
        Check.about("section 4, TRACE: of the NODES with the largest numbers");
        Tower full = new Tower();
        for (int k = 0; k < 84; k++) {
            print(full, k);
        }
        int[] last = chain(full, 5);
        Check.same("many(2)", full.many(2), 90);
        full.run();
        trace(full, 0, last);
        Check.about("section 4, TRACE: whatever the number of the EXCEPTION is, and how many were made ahead of it");
        for (int before = 28; before <= 39; before++) {
            Tower y = new Tower();
            int p = y.procedure(0);
            int wrap = y.node(WRAP, ROOT, 103, 0);
            y.body(p, caught(y, y.node(THROW, ROOT, 103, 0), ROOT, wrap));
            int call = y.node(CALL, 0, p, 0);
            int small = caught(y, y.node(THROW, RING, 1, 0), ROOT, y.node(ADD, 3, 1, 0));
            int turns = y.node(LOOP, 4, y.node(SEQ, 0, small, y.node(ADD, 4, -1, 0)), 0);
            y.body(0, seq(y, y.node(SET, 4, before - 1, 0), turns, call));
            Check.same("run()", y.run(), 1);
            Check.same("ofRun(6)", y.ofRun(6), before + 1);
            exception(y, before - 1, ROOT, before - 1, NONE, 0, 2);
            exception(y, before, ROOT, before - 1, before - 1, 0, 2);
            trace(y, before, wrap, call);
        }
        Check.about("section 4, TRACE: of the CALLS that were under way, not of those before; AGAIN and THROWN leave it");
        Tower x = new Tower();
        int p = printing(x, 1);
        int thrown = x.node(THROW, ROOT, 1, 0);
        int again = x.node(SEQ, 0, x.node(KEEP, 0, 0, 0), x.node(AGAIN, 0, 0, 0));
        int tried = caught(x, caught(x, thrown, ROOT, again), ROOT, x.node(THROWN, 0, 0, 0));
        x.body(0, x.node(SEQ, 0, x.node(CALL, 0, p, 0), tried));
        Check.same("run()", x.run(), 1);
        Check.same("ofRun(6)", x.ofRun(6), 1);
        trace(x, 0, thrown);
    }

    private static void traceOfSixUsings() {
        Check.about("section 4, TRACE: the first 6 of all these, of CALLS, and of USINGS that were OPENING or CLOSING, by turns");
        for (int procedures = 3; procedures <= 7; procedures++) {
            Tower x = new Tower();
            for (int p = 1; p <= procedures; p++) {
                x.procedure(0);
            }
            int[] nodes = new int[procedures + 1];
            for (int p = 0; p <= procedures; p++) {
                int node = p == procedures ? x.node(DIV, 0, 0, 0)
                        : p % 3 == 0 ? x.node(USING, p + 1, print(x, 1), NONE)
                        : p % 3 == 1 ? x.node(CALL, 0, p + 1, 0) : x.node(USING, NONE, print(x, 1), p + 1);
                x.body(p, node);
                nodes[procedures - p] = node;
            }
            Check.same("run()", x.run(), 1);
            Check.same("ofRun(7)", x.ofRun(7), procedures + 1);
            int[] due = new int[Math.min(6, nodes.length)];
            System.arraycopy(nodes, 0, due, 0, due.length);
            trace(x, 0, due);
        }
    }

    private static void traceOfUsing() {
        Check.about("section 4, TRACE: and of the USINGS that were just OPENING or CLOSING");
        Tower x = new Tower();
        int p = throwing(x, ZERO, 2);
        int thrown = x.ofProcedure(p, 1);
        int deeper = x.procedure(0);
        int opening = x.node(USING, p, print(x, 1), NONE);
        x.body(deeper, opening);
        int closing = x.node(USING, NONE, print(x, 1), deeper);
        x.body(0, closing);
        x.run();
        trace(x, 0, thrown, opening, closing);
        Check.about("section 4, TRACE: not of a USING whose b is run");
        int call = x.node(CALL, 0, p, 0);
        int q = printing(x, 1);
        x.body(0, x.node(USING, q, call, q));
        x.run();
        trace(x, 0, thrown, call);
        int alone = x.node(THROW, RING, 1, 0);
        x.body(0, x.node(USING, q, alone, q));
        x.run();
        trace(x, 0, alone);
    }

    private static void traceOfSpecial() {
        Check.about("section 4, TRACE: of ZERO, RING, EMPTY and OVERFLOW the NODE where it came to be");
        Tower x = new Tower();
        int p = x.procedure(0);
        int call = x.node(CALL, 0, p, 0);
        int div = x.node(DIV, 0, 0, 0);
        int thrown = x.node(THROWN, 0, 0, 0);
        int link = x.node(LINK, 1, 0, 0);
        int ring = caught(x, x.node(THROW, ROOT, 1, 0), ROOT, x.node(SEQ, 0, x.node(KEEP, 1, 0, 0), link));
        int over = x.node(CALL, 2, 0, 0);
        x.body(0, call);
        int[][] due = {{div, div, ZERO}, {thrown, thrown, EMPTY}, {ring, link, RING}, {over, over, OVERFLOW}};
        x.limits(100, 2);
        for (int[] one : due) {
            x.body(p, one[0]);
            Check.same("run()", x.run(), 1);
            Check.same("exception(.., 0)", x.exception(x.ofRun(2), 0), one[2]);
            Check.same("exception(.., 1)", x.exception(x.ofRun(2), 1), 0);
            trace(x, x.ofRun(2), one[1], call);
        }
        Check.about("section 4, TRACE: of a WRAP its own NODE, with the CALLS that are under way then");
        int wrap = x.node(WRAP, ZERO, 4, 0);
        x.body(p, print(x, 1));
        int inner = x.procedure(0);
        int alone = x.node(THROW, ROOT, 1, 0);
        x.body(inner, alone);
        int deeper = x.node(CALL, 0, inner, 0);
        x.body(p, caught(x, deeper, ROOT, wrap));
        x.limits(100, 3);
        x.run();
        trace(x, 0, alone, deeper, call);
        trace(x, 1, wrap, call);
    }
}
