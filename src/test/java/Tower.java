import java.util.ArrayList;
import java.util.List;

/**
 * An UnwindTower that a test may ask as much as it likes. What answers behind the 512th call is free: so all that was
 * told, and all that was refused, is kept, and told to a new object when the calls of the one before are used up.
 */
final class Tower {
    static final int CALLS = 512;

    private interface Call {
        long on(UnwindTower x);
    }

    private final List<Call> told = new ArrayList<>();
    private UnwindTower x = new UnwindTower();
    private int calls = 0;

    /** How many calls the present object has answered. */
    int calls() {
        return calls;
    }

    private long tell(Call call) {
        makeRoom();
        told.add(call);
        calls++;
        return call.on(x);
    }

    /** What is refused is to be told again, too: if it changes something, then in the next object as well. */
    private long ask(Call call) {
        makeRoom();
        calls++;
        try {
            return call.on(x);
        } catch (RuntimeException e) {
            told.add(call);
            throw e;
        }
    }

    private void makeRoom() {
        if (calls < CALLS) {
            return;
        }
        if (told.size() >= CALLS) {
            throw new AssertionError("a test tells more than one object can be told");
        }
        x = new UnwindTower();
        calls = 0;
        for (Call call : told) {
            calls++;
            try {
                call.on(x);
            } catch (RuntimeException e) {
                // it was refused before, too
            }
        }
    }

    // ---- the face

    int kind(int parent, boolean isChecked) {
        return (int) tell(y -> y.kind(parent, isChecked));
    }

    int ofKind(int kind, int what) {
        return (int) ask(y -> y.ofKind(kind, what));
    }

    int procedure(int tells) {
        return (int) tell(y -> y.procedure(tells));
    }

    int tell(int procedure, int tells) {
        return (int) tell(y -> y.tell(procedure, tells));
    }

    int ofProcedure(int procedure, int what) {
        return (int) ask(y -> y.ofProcedure(procedure, what));
    }

    int node(int sort, int a, int b, int c) {
        return (int) tell(y -> y.node(sort, a, b, c));
    }

    int body(int procedure, int node) {
        return (int) tell(y -> y.body(procedure, node));
    }

    int ofNode(int node, int what) {
        return (int) ask(y -> y.ofNode(node, what));
    }

    int fault(int k, int what) {
        return (int) ask(y -> y.fault(k, what));
    }

    boolean prune(boolean isOn) {
        return tell(y -> y.prune(isOn) ? 1 : 0) == 1;
    }

    int code(int procedure, int k, int what) {
        return (int) ask(y -> y.code(procedure, k, what));
    }

    int row(int procedure, int k, int what) {
        return (int) ask(y -> y.row(procedure, k, what));
    }

    int limits(int most, int deep) {
        return (int) tell(y -> y.limits(most, deep));
    }

    int run() {
        return (int) tell(UnwindTower::run);
    }

    int ofRun(int what) {
        return (int) ask(y -> y.ofRun(what));
    }

    int printed(int k, int what) {
        return (int) ask(y -> y.printed(k, what));
    }

    int exception(int exception, int what) {
        return (int) ask(y -> y.exception(exception, what));
    }

    int suppressed(int exception, int k) {
        return (int) ask(y -> y.suppressed(exception, k));
    }

    int trace(int exception, int k) {
        return (int) ask(y -> y.trace(exception, k));
    }

    int held(int which) {
        return (int) ask(y -> y.held(which));
    }

    double meanPrinted() {
        return Double.longBitsToDouble(ask(y -> Double.doubleToRawLongBits(y.meanPrinted())));
    }

    int many(int what) {
        return (int) ask(y -> y.many(what));
    }

    int wouldRun(int most, int deep, int what) {
        return (int) ask(y -> y.wouldRun(most, deep, what));
    }

    int catcher(int node, int kind) {
        return (int) ask(y -> y.catcher(node, kind));
    }

    int faultsWith(int procedure, int tells) {
        return (int) ask(y -> y.faultsWith(procedure, tells));
    }

    long digest() {
        return ask(UnwindTower::digest);
    }
}
