import java.util.function.Supplier;

/** The sentences of the document that name an edge, of section 2 and promises 7 to 9, as in EdgesOfTellingTest. */
public final class EdgesOfNodesTest extends Tests {
    private static final Supplier<Tower> NEW = Tower::new;
    private static final Supplier<Tower> RAN = Samples::ran;
    private static final Supplier<Tower> FAULTY = Samples::faulty;
    private static final Supplier<Tower> PARTS = EdgesOfNodesTest::parts;
    private static final Supplier<Tower> ALL_NODES = () -> printing(90);

    /** The NODES of PARTS that can be parts, and those that can't; the number of the next NODE. */
    private static final int[] STATEMENTS = {0, 1, 2, 10, 15};
    private static final int[] CATCHES = {4, 6, 14};
    private static final int[] NEITHER = {3, 5, 7, 8, 9, 11, 12, 13};
    private static final int NEXT = 16;

    /**
     * Of each sort what a, b and c are: V, X, C, P, S as in the document, 0 what is not told; s a STATEMENT, and t that or
     * NONE; k a CATCH or NONE; p a PROCEDURE or NONE.
     */
    private static final String[] TOLD = {"VX0", "VX0", "VX0", "0X0", "0ss", "Xst", "Vs0", "000", "0X0", "VP0", "CX0",
        "tsk", "Csk", "psp", "000", "CX0", "S00", "S00", "S00"};

    private EdgesOfNodesTest() {
    }

    public static void main(String[] args) {
        sorts();
        numbers();
        parts(STATEMENTS, CATCHES);
        smallerNumbers();
        twice();
        notBothNone();
        partOfAnother();
        ninetyNodes();
        bodyRefused();
        bodyOfEachSort();
        bodyBefore();
        ofNode();
        ofNodeIn();
        ofNodeCan();
        ofNodeCanTry();
        ofNodeNeverEnds();
        ofNodeBegun();
        Check.end();
    }

    /** 6 CLASSES, 2 PROCEDURES, 16 NODES. */
    private static Tower parts() {
        Tower x = new Tower();
        x.kind(ZERO, false);
        x.procedure(0);
        print(x, 0);
        print(x, 1);
        print(x, 2);
        x.node(CATCH, RING, print(x, 3), NONE);
        x.node(CATCH, ZERO, print(x, 5), NONE);
        x.body(0, print(x, 7));
        x.node(SEQ, 0, print(x, 8), print(x, 9));
        int next = x.node(CATCH, RING, print(x, 11), NONE);
        x.node(CATCH, ROOT, print(x, 13), next);
        print(x, 15);
        return x;
    }

    private static Tower printing(int nodes) {
        Tower x = new Tower();
        for (int k = 0; k < nodes; k++) {
            print(x, k % 100);
        }
        return x;
    }

    // ---- promise 7

    /** A NODE of this sort that is one, with a, b and c that differ from what the tests put there. */
    private static int[] sound(int sort) {
        int[] all = {sort, 0, 0, 0};
        int statement = 0;
        for (int k = 0; k < 3; k++) {
            switch (TOLD[sort].charAt(k)) {
                case '0':
                    break;
                case 's':
                case 't':
                    all[1 + k] = statement++;
                    break;
                case 'k':
                    all[1 + k] = CATCHES[0];
                    break;
                default:
                    all[1 + k] = 1;
            }
        }
        return all;
    }

    private static String named(int[] n) {
        return "node(" + n[0] + ", " + n[1] + ", " + n[2] + ", " + n[3] + ")";
    }

    private static int[] with(int sort, int place, int number) {
        int[] all = sound(sort);
        all[place] = number;
        return all;
    }

    private static void isNode(Supplier<Tower> made, int[] n) {
        Tower x = made.get();
        int number = x.many(2);
        Check.same(named(n), x.node(n[0], n[1], n[2], n[3]), number);
        Check.same("many(2) behind " + named(n), x.many(2), number + 1);
        for (int what = 0; what <= 3; what++) {
            Check.same(named(n) + ", ofNode(.., " + what + ")", x.ofNode(number, what), n[what]);
        }
    }

    private static void isNone(Supplier<Tower> made, int... n) {
        illegalArgument(named(n), made, x -> x.node(n[0], n[1], n[2], n[3]));
    }

    private static void sorts() {
        Check.about("promise 7: sort is not 0 to 18");
        for (int sort = 0; sort <= 18; sort++) {
            isNode(PARTS, sound(sort));
        }
        for (int sort : new int[] {-1, 19, -2, 20, MIN, MAX}) {
            isNone(PARTS, sort, 0, 0, 0);
            isNone(NEW, sort, 0, 0, 0);
            isNone(PARTS, sort, 1, 1, 1);
        }
    }

    /** Each V, X, C, P, S, and what is not told, at its edges. */
    private static void numbers() {
        for (int sort = 0; sort <= 18; sort++) {
            for (int k = 0; k < 3; k++) {
                switch (TOLD[sort].charAt(k)) {
                    case 'V':
                        numbers("a V is none that there is", sort, k + 1, new int[] {0, 1, 8, 9}, -1, 10);
                        break;
                    case 'X':
                        int[] operands = {-99, -98, -1, 0, 98, 99, 100, 101, 108, 109};
                        numbers("an X is none that there is", sort, k + 1, operands, -100, 110);
                        break;
                    case 'C':
                        numbers("a C is none that there is", sort, k + 1, new int[] {0, 1, 4, 5}, -1, 6);
                        break;
                    case 'P':
                        numbers("a P is none that there is", sort, k + 1, new int[] {0, 1}, -1, 2);
                        break;
                    case 'p':
                        numbers("a P is none that there is, nor NONE", sort, k + 1, new int[] {NONE, 0, 1}, -2, 2);
                        break;
                    case 'S':
                        numbers("an S is none that there is", sort, k + 1, new int[] {0, 1, 2, 3}, -1, 4);
                        break;
                    case '0':
                        numbers("something that is not told is not 0", sort, k + 1, new int[] {0}, -1, 1);
                        break;
                    default:
                        break;
                }
            }
        }
    }

    private static void numbers(String sentence, int sort, int place, int[] sound, int below, int above) {
        Check.about("promise 7: " + sentence);
        for (int number : sound) {
            isNode(PARTS, with(sort, place, number));
        }
        for (int number : new int[] {below, above, below - 1, above + 1, MIN, MAX}) {
            isNone(PARTS, with(sort, place, number));
        }
    }

    private static void parts(int[] statements, int[] catches) {
        for (int sort = 0; sort <= 18; sort++) {
            for (int k = 0; k < 3; k++) {
                char told = TOLD[sort].charAt(k);
                if (told == 's' || told == 't') {
                    parts(sort, k + 1, statements, catches, told == 't');
                } else if (told == 'k') {
                    parts(sort, k + 1, catches, statements, true);
                }
            }
        }
    }

    private static void parts(int sort, int place, int[] right, int[] wrong, boolean canBeNone) {
        Check.about("promise 7: a part is no such NODE as it has to be");
        for (int node : wrong) {
            isNone(PARTS, with(sort, place, node));
        }
        for (int node : new int[] {-2, MIN, MAX}) {
            isNone(PARTS, with(sort, place, node));
        }
        if (canBeNone) {
            isNode(PARTS, with(sort, place, NONE));
        } else {
            isNone(PARTS, with(sort, place, NONE));
        }
        Check.about("promise 7: a part is part of another one, or a BODY");
        for (int node : NEITHER) {
            isNone(PARTS, with(sort, place, node));
        }
        Check.about("section 2: a part of a NODE is a NODE with a smaller number that is part of no other one");
        isNone(PARTS, with(sort, place, NEXT));
        isNone(PARTS, with(sort, place, NEXT + 1));
        for (int node : right) {
            int[] n = with(sort, place, node);
            boolean isTwice = (n[1] == n[2] && TOLD[sort].charAt(0) == 't') || (n[2] == n[3] && sort != USING);
            if (!isTwice) {
                isNode(PARTS, n);
                Tower x = PARTS.get();
                x.node(n[0], n[1], n[2], n[3]);
                Check.illegalArgument(named(n) + " once more", () -> x.node(n[0], n[1], n[2], n[3]));
            }
        }
    }

    private static void smallerNumbers() {
        Check.about("section 2: a NODE with a smaller number, at the first and the last one");
        isNone(NEW, LOOP, 0, 0, 0);
        isNone(NEW, LOOP, 0, 1, 0);
        isNone(NEW, CATCH, 0, 0, NONE);
        isNone(NEW, USING, 0, 0, 0);
        isNode(() -> printing(1), new int[] {LOOP, 0, 0, 0});
        isNone(() -> printing(1), LOOP, 0, 1, 0);
        isNode(() -> printing(2), new int[] {SEQ, 0, 1, 0});
        isNode(() -> printing(2), new int[] {SEQ, 0, 0, 1});
        isNone(() -> printing(2), SEQ, 0, 1, 2);
        isNone(() -> printing(2), SEQ, 0, 2, 1);
        isNode(() -> printing(2), new int[] {IF, 0, 1, NONE});
        isNone(() -> printing(2), IF, 0, 2, NONE);
        isNode(() -> printing(2), new int[] {TRY, 1, 0, NONE});
        isNone(() -> printing(2), TRY, 2, 0, NONE);
        isNode(() -> printing(89), new int[] {LOOP, 0, 88, 0});
        isNone(() -> printing(89), LOOP, 0, 89, 0);
    }

    private static void twice() {
        Check.about("promise 7: two parts are the same");
        for (int node : STATEMENTS) {
            isNone(PARTS, SEQ, 0, node, node);
            isNone(PARTS, IF, 1, node, node);
            isNone(PARTS, TRY, node, node, NONE);
            isNone(PARTS, TRY, node, node, CATCHES[0]);
        }
        isNode(PARTS, new int[] {TRY, 1, 0, 4});
        isNode(PARTS, new int[] {CATCH, 0, 0, 4});
        Check.about("section 2: two PROCEDURES of a USING can be the same, and a part can have the number of a CLASS");
        isNode(PARTS, new int[] {USING, 1, 1, 1});
        isNode(PARTS, new int[] {USING, 0, 0, 0});
        isNode(PARTS, new int[] {IF, 1, 1, NONE});
        isNode(PARTS, new int[] {LOOP, 1, 1, 0});
        isNode(PARTS, new int[] {CATCH, 0, 0, NONE});
    }

    private static void notBothNone() {
        Check.about("section 2, TRY: c is a CATCH, or NONE; a its FINALLY, or NONE; not both are NONE");
        isNone(PARTS, TRY, NONE, 0, NONE);
        isNode(PARTS, new int[] {TRY, 1, 0, NONE});
        isNode(PARTS, new int[] {TRY, NONE, 0, 4});
        isNode(PARTS, new int[] {TRY, 1, 0, 4});
        Check.about("section 2, USING: each can be NONE, not both");
        isNone(PARTS, USING, NONE, 0, NONE);
        isNode(PARTS, new int[] {USING, 1, 0, NONE});
        isNode(PARTS, new int[] {USING, NONE, 0, 1});
        isNode(PARTS, new int[] {USING, 1, 0, 1});
        Check.about("section 2, IF: c can be NONE; CATCH: c is the next CATCH, or NONE");
        isNode(PARTS, new int[] {IF, 0, 0, NONE});
        isNode(PARTS, new int[] {CATCH, 0, 0, NONE});
        isNone(PARTS, IF, 0, NONE, NONE);
        isNone(PARTS, CATCH, 0, NONE, NONE);
    }

    private static void partOfAnother() {
        Check.about("promise 7: is part of another one, or a BODY, as long as it is");
        Tower x = new Tower();
        int p = print(x, 0);
        int q = print(x, 1);
        x.body(0, p);
        Check.illegalArgument("a LOOP of a BODY", () -> x.node(LOOP, 0, p, 0));
        x.body(0, q);
        Check.illegalArgument("a LOOP of the BODY now", () -> x.node(LOOP, 0, q, 0));
        Check.same("a LOOP of the BODY before", x.node(LOOP, 0, p, 0), 2);
        Check.illegalArgument("a LOOP of what is a part now", () -> x.node(LOOP, 0, p, 0));
        // a refused one has no parts
        Tower y = PARTS.get();
        Check.illegalArgument("a SEQ", () -> y.node(SEQ, 1, 0, 1));
        Check.illegalArgument("a TRY", () -> y.node(TRY, 2, 0, 12));
        Check.same("a SEQ of the parts of what was refused", y.node(SEQ, 0, 0, 1), NEXT);
        Check.same("a TRY of these", y.node(TRY, 2, NEXT, 4), NEXT + 1);
    }

    private static void ninetyNodes() {
        Check.about("promise 7: if there are 90");
        isNode(() -> printing(88), new int[] {PRINT, 0, 0, 0});
        isNode(() -> printing(89), new int[] {PRINT, 0, 0, 0});
        isNode(() -> printing(89), new int[] {TRY, 1, 0, NONE});
        illegalState("node(3, 0, 0, 0) with 90", ALL_NODES, x -> x.node(PRINT, 0, 0, 0));
        illegalState("node(4, 0, 88, 89) with 90", ALL_NODES, x -> x.node(SEQ, 0, 88, 89));
        illegalState("node(11, 0, 1, -1) with 90", ALL_NODES, x -> x.node(TRY, 0, 1, NONE));
        Check.about("promise 7: both, the first one is thrown");
        isNone(ALL_NODES, 19, 0, 0, 0);
        isNone(ALL_NODES, PRINT, 0, 110, 0);
        isNone(ALL_NODES, LOOP, 0, 90, 0);
        isNone(ALL_NODES, SEQ, 0, 1, 1);
        Check.about("section 2: NODES: at most 90, numbered from 0");
        Tower x = new Tower();
        for (int number = 0; number < 90; number++) {
            Check.same("many(2)", x.many(2), number);
            Check.same("node()", print(x, 0), number);
        }
        Check.same("many(2)", x.many(2), 90);
        Check.same("ofNode(89, 0)", x.ofNode(89, 0), PRINT);
        Check.same("the last one as a BODY", x.body(0, 89), NONE);
        Check.same("run()", x.run(), 0);
        Check.same("ofNode(89, 7)", x.ofNode(89, 7), 1);
        Check.same("many(3)", x.many(3), 89);
    }

    // ---- promise 8

    private static void bodyRefused() {
        Check.about("promise 8: if there is no such PROCEDURE, or NODE");
        indexes("body(p, 0)", () -> printing(90), 0, 0, (x, procedure) -> x.body(procedure, procedure + 1));
        Supplier<Tower> three = () -> {
            Tower x = PARTS.get();
            x.procedure(0);
            return x;
        };
        for (int procedure = 0; procedure <= 2; procedure++) {
            Check.same("body(" + procedure + ", 0)", three.get().body(procedure, 0), procedure == 0 ? 7 : NONE);
        }
        for (int procedure : new int[] {-1, 3, MIN, MAX}) {
            outOfBounds("body(" + procedure + ", 0)", three, x -> x.body(procedure, 0));
        }
        for (int node : new int[] {0, 1, 10, 15}) {
            Check.same("body(0, " + node + ")", PARTS.get().body(0, node), 7);
        }
        for (int node : new int[] {-1, -2, NEXT, NEXT + 1, MIN, MAX}) {
            outOfBounds("body(0, " + node + ")", PARTS, x -> x.body(0, node));
        }
        outOfBounds("body(0, 0) of a new object", NEW, x -> x.body(0, 0));
        outOfBounds("body(0, 90)", ALL_NODES, x -> x.body(0, 90));
        Check.about("promise 8: if it is no STATEMENT");
        for (int node : CATCHES) {
            illegalArgument("body(0, " + node + ")", PARTS, x -> x.body(0, node));
        }
        Check.about("promise 8: if it is part of a NODE, or a BODY (this one, too)");
        for (int node : new int[] {3, 5, 8, 9, 11, 13}) {
            illegalState("body(0, " + node + ")", PARTS, x -> x.body(0, node));
        }
        illegalState("body(0, 7), which it is", PARTS, x -> x.body(0, 7));
        illegalState("body(1, 7), which MAIN has", PARTS, x -> x.body(1, 7));
        illegalState("body(0, 12), which ran", RAN, x -> x.body(0, 12));
        illegalState("body(4, 1)", FAULTY, x -> x.body(4, 1));
        Check.about("promise 8: more than one, the first one is thrown");
        outOfBounds("body(2, 4), a CATCH", PARTS, x -> x.body(2, 4));
        outOfBounds("body(-1, 3), a part", PARTS, x -> x.body(NONE, 3));
        outOfBounds("body(-1, 16)", PARTS, x -> x.body(NONE, NEXT));
        illegalArgument("body(0, 12), a CATCH that is a part", PARTS, x -> x.body(0, 12));
    }

    private static void bodyOfEachSort() {
        Check.about("section 2: all but 12 are STATEMENTS; one that is part of no NODE can be the BODY");
        for (int sort = 0; sort <= 18; sort++) {
            Tower x = PARTS.get();
            int[] n = sound(sort);
            int node = x.node(n[0], n[1], n[2], n[3]);
            if (sort == CATCH) {
                Check.illegalArgument("body of sort " + sort, () -> x.body(1, node));
                Check.same("ofProcedure(1, 1)", x.ofProcedure(1, 1), NONE);
                Check.same("as the next CATCH", x.node(CATCH, 0, 15, node), node + 1);
            } else {
                Check.same("body of sort " + sort, x.body(1, node), NONE);
                Check.same("ofProcedure(1, 1)", x.ofProcedure(1, 1), node);
                Check.illegalArgument("as a CATCH", () -> x.node(CATCH, 0, 15, node));
            }
        }
    }

    private static void bodyBefore() {
        Check.about("promise 8: returns the one before (NONE), which is part of nothing then");
        Tower x = new Tower();
        x.procedure(0);
        int p = print(x, 0);
        int q = print(x, 1);
        int r = print(x, 2);
        Check.same("body(0, p)", x.body(0, p), NONE);
        Check.illegalState("body(1, p)", () -> x.body(1, p));
        Check.same("body(0, q)", x.body(0, q), p);
        Check.same("ofNode(p, 4)", x.ofNode(p, 4), NONE);
        Check.same("ofNode(q, 4)", x.ofNode(q, 4), 0);
        Check.same("body(1, p)", x.body(1, p), NONE);
        Check.same("body(0, r)", x.body(0, r), q);
        Check.illegalState("body(0, p)", () -> x.body(0, p));
        Check.same("body(0, SEQ of q)", x.body(0, x.node(SEQ, 0, q, print(x, 3))), r);
        Check.illegalState("body(1, q), a part now", () -> x.body(1, q));
        Check.same("body(1, r)", x.body(1, r), p);
        Check.same("run()", x.run(), 0);
    }

    // ---- promise 9

    private static void ofNode() {
        Check.about("promise 9: if there is no such NODE, or what is not 0 to 7");
        indexes("ofNode(n, 0)", RAN, 0, 12, (x, node) -> x.ofNode(node, 0));
        indexes("ofNode(n, 4)", FAULTY, 0, 12, (x, node) -> x.ofNode(node, 4));
        indexes("ofNode(n, 7)", ALL_NODES, 0, 89, (x, node) -> x.ofNode(node, 7));
        indexes("ofNode(n, 6)", () -> printing(1), 0, 0, (x, node) -> x.ofNode(node, 6));
        outOfBounds("ofNode(0, 0) of a new object", NEW, x -> x.ofNode(0, 0));
        arguments("ofNode(0, what)", RAN, 0, 7, (x, what) -> x.ofNode(0, what));
        arguments("ofNode(12, what)", FAULTY, 0, 7, (x, what) -> x.ofNode(12, what));
        outOfBounds("ofNode(13, 8)", RAN, x -> x.ofNode(13, 8));
        outOfBounds("ofNode(-1, -1)", RAN, x -> x.ofNode(NONE, NONE));
    }

    private static void ofNodeIn() {
        Check.about("promise 9: the PROCEDURE that it is IN (NONE)");
        Tower x = new Tower();
        x.procedure(0);
        int[] nodes = {print(x, 0), print(x, 1), x.node(CATCH, 0, 1, NONE), print(x, 2), x.node(TRY, 0, 3, 2)};
        for (int node : nodes) {
            Check.same("ahead of body(), ofNode(" + node + ", 4)", x.ofNode(node, 4), NONE);
        }
        for (int procedure : new int[] {1, 0}) {
            x.body(procedure, 4);
            for (int node : nodes) {
                Check.same("ofNode(" + node + ", 4)", x.ofNode(node, 4), procedure);
            }
            x.body(procedure, print(x, 5));
            for (int node : nodes) {
                Check.same("behind another body(), ofNode(" + node + ", 4)", x.ofNode(node, 4), NONE);
            }
        }
    }

    private static void ofNodeCan() {
        Check.about("promise 9: what it CAN throw (of a CATCH: what its b CAN; of AGAIN without a CATCH around it: 0)");
        Tower x = new Tower();
        int again = x.node(AGAIN, 0, 0, 0);
        int other = x.node(AGAIN, 0, 0, 0);
        int inB = x.node(AGAIN, 0, 0, 0);
        Check.same("AGAIN without a CATCH", x.ofNode(again, 5), 0);
        int last = x.node(CATCH, EMPTY, other, NONE);
        Check.same("as a CATCH is around it", x.ofNode(other, 5), 16);
        int first = x.node(CATCH, ZERO, again, last);
        Check.same("of another CLASS", x.ofNode(again, 5), 8);
        Check.same("in c of a CATCH, by its own one", x.ofNode(other, 5), 16);
        Check.same("a CATCH: not what the next one CAN", x.ofNode(first, 5), 8);
        int tried = x.node(TRY, NONE, inB, first);
        Check.same("AGAIN in b of a TRY", x.ofNode(inB, 5), 0);
        Check.same("TRY", x.ofNode(tried, 5), 24);
        int outer = x.node(CATCH, RING, tried, NONE);
        Check.same("the innermost CATCH around", x.ofNode(again, 5), 8);
        Check.same("AGAIN in b of a TRY in a CATCH", x.ofNode(inB, 5), 4);
        Check.same("that CATCH", x.ofNode(outer, 5), 4 + 24);
        int[] nothing = {x.node(SET, 0, 0, 0), x.node(ADD, 0, 0, 0), x.node(DIV, 0, 0, 0), print(x, 0),
                x.node(BREAK, 0, 0, 0), x.node(RETURN, 0, 0, 0), x.node(KEEP, 0, 0, 0), x.node(LINK, 0, 0, 0),
                x.node(THROWN, 0, 0, 0)};
        for (int node : nothing) {
            Check.same("others: nothing, of sort " + x.ofNode(node, 0), x.ofNode(node, 5), 0);
        }
        Check.same("WRAP without a CATCH", x.ofNode(x.node(WRAP, OVERFLOW, 0, 0), 5), 2);
        Check.same("CALL", x.ofNode(x.node(CALL, 0, 0, 0), 5), 0);
        x.tell(0, 18);
        Check.same("CALL, as P TELLS more", x.ofNode(x.many(2) - 1, 5), 18);
        Check.same("USING, a alone", x.ofNode(x.node(USING, 0, print(x, 0), NONE), 5), 18);
        Check.same("USING, c alone", x.ofNode(x.node(USING, NONE, print(x, 0), 0), 5), 18);
        Check.same("USING, b as well", x.ofNode(x.node(USING, NONE, x.node(THROW, 0, 0, 0), 0), 5), 19);
        int p = x.procedure(4);
        Check.same("USING, a of another PROCEDURE", x.ofNode(x.node(USING, p, print(x, 0), NONE), 5), 4);
        Check.same("USING, c of another PROCEDURE", x.ofNode(x.node(USING, NONE, print(x, 0), p), 5), 4);
        Check.same("USING, of both", x.ofNode(x.node(USING, 0, print(x, 0), p), 5), 18 + 4);
        Check.same("USING, of both, the other way", x.ofNode(x.node(USING, p, print(x, 0), 0), 5), 18 + 4);
    }

    /** A TRY of what all three parts CAN; last is its FINALLY, or NONE. */
    private static int tryOf(Tower x, int inB, int caught, int inCatch, int last) {
        return x.node(TRY, last, x.node(THROW, inB, 0, 0), x.node(CATCH, caught, x.node(THROW, inCatch, 0, 0), NONE));
    }

    private static void ofNodeCanTry() {
        Check.about("section 3, TRY: of what b CAN those that are AT OR BELOW the CLASS of no CATCH");
        Tower x = new Tower();
        x.kind(ZERO, false);
        x.kind(5, false);
        Check.same("the CLASS itself", x.ofNode(tryOf(x, 5, 5, RING, NONE), 5), 4);
        Check.same("one below it", x.ofNode(tryOf(x, 6, 5, RING, NONE), 5), 4);
        Check.same("one above it", x.ofNode(tryOf(x, ZERO, 5, RING, NONE), 5), 4 + 8);
        Check.same("ROOT of ROOT", x.ofNode(tryOf(x, ROOT, ROOT, RING, NONE), 5), 4);
        Check.same("ROOT of another", x.ofNode(tryOf(x, ROOT, ZERO, RING, NONE), 5), 4 + 1);
        int second = x.node(CATCH, EMPTY, print(x, 0), NONE);
        int first = x.node(CATCH, RING, print(x, 0), second);
        int b = seq(x, x.node(THROW, RING, 0, 0), x.node(THROW, EMPTY, 0, 0), x.node(THROW, ZERO, 0, 0));
        Check.same("by the second CATCH", x.ofNode(x.node(TRY, NONE, b, first), 5), 8);
        Check.about("section 3, TRY: and what its CATCHES CAN, also what a later one would catch");
        int later = x.node(CATCH, RING, x.node(THROW, ZERO, 0, 0), NONE);
        int earlier = x.node(CATCH, ZERO, x.node(THROW, RING, 0, 0), later);
        Check.same("one CATCH throws what the other one is of", x.ofNode(x.node(TRY, NONE, print(x, 0), earlier), 5), 8 + 4);
        int its = x.node(CATCH, EMPTY, x.node(THROW, EMPTY, 0, 0), NONE);
        Check.same("a CATCH throws its own CLASS", x.ofNode(x.node(TRY, NONE, print(x, 0), its), 5), 16);
        Check.about("section 3, TRY: none of these, if its FINALLY NEVER ENDS; and what its FINALLY CAN");
        Check.same("it ends", x.ofNode(tryOf(x, ZERO, 5, RING, print(x, 0)), 5), 8 + 4);
        int choice = x.node(IF, 0, x.node(THROW, EMPTY, 0, 0), NONE);
        Check.same("it can end, and throw", x.ofNode(tryOf(x, ZERO, 5, RING, choice), 5), 8 + 4 + 16);
        Check.same("it throws", x.ofNode(tryOf(x, ZERO, 5, RING, x.node(THROW, EMPTY, 0, 0)), 5), 16);
        Check.same("it returns", x.ofNode(tryOf(x, ZERO, 5, RING, x.node(RETURN, 0, 0, 0)), 5), 0);
        Check.same("it BREAKS", x.ofNode(tryOf(x, ZERO, 5, RING, x.node(BREAK, 0, 0, 0)), 5), 0);
    }

    private static int ends(Tower x, boolean isSo) {
        return isSo ? print(x, 0) : x.node(RETURN, 0, 0, 0);
    }

    private static void ofNodeNeverEnds() {
        Check.about("section 3, NEVER ENDS: each choice of parts that do");
        int[] sorts = {0, 0, 0, 0, 0, 0, 0, 1, 1, 0, 1, 0, 0, 0, 1, 1, 0, 0, 1};
        for (int sort = 0; sort <= 18; sort++) {
            Tower x = PARTS.get();
            int[] n = sound(sort);
            Check.same("of sort " + sort, x.ofNode(x.node(n[0], n[1], n[2], n[3]), 6), sorts[sort]);
        }
        for (int bits = 0; bits < 32; bits++) {
            boolean first = (bits & 1) == 0;
            boolean second = (bits & 2) == 0;
            boolean third = (bits & 4) == 0;
            boolean last = (bits & 8) == 0;
            Tower x = new Tower();
            ends(x, bits >= 16);
            String of = " of " + first + ", " + second + ", " + third + ", " + last;
            Check.same("SEQ" + of, x.ofNode(x.node(SEQ, 0, ends(x, first), ends(x, second)), 6), !first || !second ? 1 : 0);
            Check.same("IF" + of, x.ofNode(x.node(IF, 0, ends(x, first), ends(x, second)), 6), !first && !second ? 1 : 0);
            Check.same("IF without c" + of, x.ofNode(x.node(IF, 0, ends(x, first), NONE), 6), 0);
            Check.same("LOOP" + of, x.ofNode(x.node(LOOP, 0, ends(x, first), 0), 6), 0);
            Check.same("USING" + of, x.ofNode(x.node(USING, 0, ends(x, first), 0), 6), first ? 0 : 1);
            int next = x.node(CATCH, ROOT, ends(x, third), NONE);
            Check.same("CATCH" + of, x.ofNode(next, 6), third ? 0 : 1);
            int caught = x.node(CATCH, ZERO, ends(x, second), next);
            Check.same("CATCH with a next one" + of, x.ofNode(caught, 6), second ? 0 : 1);
            int tried = x.node(TRY, ends(x, last), ends(x, first), caught);
            boolean never = !last || !first && !second && !third;
            Check.same("TRY" + of, x.ofNode(tried, 6), never ? 1 : 0);
            int alone = x.node(TRY, ends(x, last), ends(x, first), NONE);
            Check.same("TRY without CATCHES" + of, x.ofNode(alone, 6), !last || !first ? 1 : 0);
            int one = x.node(CATCH, ZERO, ends(x, second), NONE);
            int open = x.node(TRY, NONE, ends(x, first), one);
            Check.same("TRY without FINALLY" + of, x.ofNode(open, 6), !first && !second ? 1 : 0);
        }
    }

    private static void ofNodeBegun() {
        Check.about("promise 9: how often it was begun in the latest run");
        Tower x = new Tower();
        int last = x.node(ADD, 0, -1, 0);
        int inLoop = x.node(TRY, last, x.node(DIV, 1, 0, 0), x.node(CATCH, ZERO, print(x, 0), NONE));
        int looped = x.node(LOOP, 0, inLoop, 0);
        int unused = print(x, 0);
        int all = x.node(SEQ, 0, x.node(SET, 0, 3, 0), x.node(SEQ, 0, looped, x.node(IF, 0, unused, NONE)));
        x.body(0, all);
        Check.same("ahead of all runs", x.ofNode(all, 7), 0);
        x.run();
        Check.same("a LOOP once", x.ofNode(looped, 7), 1);
        Check.same("what is in it", x.ofNode(inLoop, 7), 3);
        Check.same("a FINALLY each time that it is run", x.ofNode(last, 7), 3);
        Check.same("a CATCH as it catches", x.ofNode(inLoop - 1, 7), 3);
        Check.same("what is not begun", x.ofNode(unused, 7), 0);
        Check.same("STEPS of all", x.ofRun(3), 5 + 3 * 5);
        x.limits(9, 1);
        x.run();
        Check.same("in the latest run, a FINALLY", x.ofNode(last, 7), 1);
        Check.same("in the latest run, cut off", x.ofNode(inLoop, 7), 1);
        Check.same("of a NODE that was told behind the run", x.ofNode(print(x, 0), 7), 0);
    }
}
