import java.util.HashMap;
import java.util.List;
import java.util.Map;
import java.util.function.Supplier;

/** What the tests share: names for numbers, builders of programs, and checks of several answers at once. */
abstract class Tests {
    static final int NONE = -1;
    static final int SET = 0, ADD = 1, DIV = 2, PRINT = 3, SEQ = 4, IF = 5, LOOP = 6, BREAK = 7, RETURN = 8,
            CALL = 9, THROW = 10, TRY = 11, CATCH = 12, USING = 13, AGAIN = 14, WRAP = 15, KEEP = 16, LINK = 17,
            THROWN = 18;
    static final int ROOT = 0, OVERFLOW = 1, RING = 2, ZERO = 3, EMPTY = 4;
    static final int MIN = Integer.MIN_VALUE, MAX = Integer.MAX_VALUE;

    static int print(Tower x, int operand) {
        return x.node(PRINT, 0, operand, 0);
    }

    static int seq(Tower x, int... parts) {
        int all = parts[parts.length - 1];
        for (int k = parts.length - 2; k >= 0; k--) {
            all = x.node(SEQ, 0, parts[k], all);
        }
        return all;
    }

    /** A PROCEDURE that only prints, whose number this is. */
    static int printing(Tower x, int number) {
        int procedure = x.procedure(0);
        x.body(procedure, print(x, number));
        return procedure;
    }

    /** A PROCEDURE that throws an EXCEPTION of this CLASS. */
    static int throwing(Tower x, int kind, int number) {
        int procedure = x.procedure(1 << kind);
        x.body(procedure, x.node(THROW, kind, number, 0));
        return procedure;
    }

    /** Each instruction with its operands, and how many NODES begin with it. */
    static void code(Tower x, int procedure, int[]... due) {
        Check.same("faults", x.many(4), 0);
        Check.same("length", x.ofProcedure(procedure, 3), due.length);
        for (int k = 0; k < due.length; k++) {
            for (int what = 0; what <= 4; what++) {
                Check.same("code(" + procedure + ", " + k + ", " + what + ")", x.code(procedure, k, what), due[k][what]);
            }
        }
    }

    static void rows(Tower x, int procedure, int[]... due) {
        Check.same("rows", x.ofProcedure(procedure, 4), due.length);
        for (int k = 0; k < due.length; k++) {
            for (int what = 0; what <= 3; what++) {
                Check.same("row(" + procedure + ", " + k + ", " + what + ")", x.row(procedure, k, what), due[k][what]);
            }
        }
    }

    static int[] at(int... numbers) {
        return numbers;
    }

    /** which, PROCEDURE, NODE, more of each. */
    static void faults(Tower x, int[]... due) {
        Check.same("many(4)", x.many(4), due.length);
        for (int k = 0; k < due.length; k++) {
            for (int what = 0; what <= 3; what++) {
                Check.same("fault(" + k + ", " + what + ")", x.fault(k, what), due[k][what]);
            }
        }
    }

    static void ofRun(Tower x, int... due) {
        for (int what = 0; what < due.length; what++) {
            Check.same("ofRun(" + what + ")", x.ofRun(what), due[what]);
        }
    }

    static void exception(Tower x, int exception, int... due) {
        for (int what = 0; what < due.length; what++) {
            Check.same("exception(" + exception + ", " + what + ")", x.exception(exception, what), due[what]);
        }
    }

    static void trace(Tower x, int exception, int... due) {
        Check.same("exception(" + exception + ", 4)", x.exception(exception, 4), due.length);
        for (int k = 0; k < due.length; k++) {
            Check.same("trace(" + exception + ", " + k + ")", x.trace(exception, k), due[k]);
        }
        Check.outOfBounds("trace behind all", () -> x.trace(exception, due.length));
    }

    static void prints(Tower x, int... due) {
        Check.same("ofRun(4)", x.ofRun(4), due.length);
        for (int k = 0; k < due.length; k++) {
            Check.same("printed(" + k + ", 0)", x.printed(k, 0), due[k]);
        }
    }

    /** A TRY with a FINALLY around one more than so many others: twice as long, and 4. */
    static int doubled(Tower x, int times) {
        int inner = print(x, 0);
        for (int k = 0; k < times; k++) {
            inner = x.node(TRY, inner, print(x, 1), NONE);
        }
        return inner;
    }

    // ---- calls that are refused

    /** What is asked of an object, or told to it. */
    interface Call {
        long on(Tower x);
    }

    /** The same for a number that is tried. */
    interface CallWith {
        long on(Tower x, int number);
    }

    private static final Map<Supplier<Tower>, List<String>> UNTOUCHED = new HashMap<>();

    static void outOfBounds(String call, Supplier<Tower> made, Call refused) {
        refused(call, IndexOutOfBoundsException.class, made, refused);
    }

    static void illegalArgument(String call, Supplier<Tower> made, Call refused) {
        refused(call, IllegalArgumentException.class, made, refused);
    }

    static void illegalState(String call, Supplier<Tower> made, Call refused) {
        refused(call, IllegalStateException.class, made, refused);
    }

    /** It throws just this, and then all is answered as by an object to which the call was not made. */
    private static void refused(String call, Class<?> due, Supplier<Tower> made, Call refused) {
        Tower x = made.get();
        Check.fails(call, () -> refused.on(x), due);
        List<String> got = Answers.of(x);
        List<String> untouched = UNTOUCHED.computeIfAbsent(made, y -> Answers.of(y.get()));
        Check.same("how many answers behind " + call, got.size(), untouched.size());
        for (int k = 0; k < Math.min(got.size(), untouched.size()); k++) {
            if (!got.get(k).equals(untouched.get(k))) {
                Check.tell("behind " + call + ": " + got.get(k) + ", due is " + untouched.get(k));
                return;
            }
        }
    }

    /** The numbers from low to high are answered, those below and above are refused. */
    static void indexes(String call, Supplier<Tower> made, int low, int high, CallWith asked) {
        answered(call, made, low, high, asked);
        for (int number : new int[] {low - 1, high + 1, MIN, MAX}) {
            outOfBounds(call + " of " + number, made, x -> asked.on(x, number));
        }
    }

    /** The same for an argument that is refused by another exception. */
    static void arguments(String call, Supplier<Tower> made, int low, int high, CallWith asked) {
        answered(call, made, low, high, asked);
        for (int number : new int[] {low - 1, high + 1, MIN, MAX}) {
            illegalArgument(call + " of " + number, made, x -> asked.on(x, number));
        }
    }

    private static void answered(String call, Supplier<Tower> made, int low, int high, CallWith asked) {
        Tower x = made.get();
        for (int number = low; number <= high; number++) {
            try {
                asked.on(x, number);
                Check.count();
            } catch (RuntimeException e) {
                Check.tell(call + " of " + number + " threw " + e);
            }
        }
    }
}
