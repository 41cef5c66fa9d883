import java.util.ArrayList;
import java.util.List;

/** Every answer that an object gives to a question, and then what it answers as more is told. */
final class Answers {
    private interface Call {
        long answer();
    }

    private final Tower x;
    private final List<String> all = new ArrayList<>();

    private Answers(Tower x) {
        this.x = x;
    }

    /** What is told at the end is told to the Tower: it is of no use then. */
    static List<String> of(Tower x) {
        Answers answers = new Answers(x);
        answers.addTold();
        answers.addCode();
        answers.addRun();
        answers.addQuestions();
        answers.addLater();
        return answers.all;
    }

    private void add(String call, long answer) {
        all.add(call + " = " + answer);
    }

    private void tell(String call, Call made) {
        String answer;
        try {
            answer = String.valueOf(made.answer());
        } catch (RuntimeException e) {
            answer = e.getClass().getSimpleName();
        }
        all.add("then " + call + " = " + answer);
    }

    private void addTold() {
        for (int what = 0; what <= 9; what++) {
            add("many(" + what + ")", x.many(what));
        }
        for (int kind = 0; kind < x.many(0); kind++) {
            for (int what = 0; what <= 4; what++) {
                add("ofKind(" + kind + ", " + what + ")", x.ofKind(kind, what));
            }
        }
        for (int procedure = 0; procedure < x.many(1); procedure++) {
            for (int what = 0; what <= 5; what++) {
                add("ofProcedure(" + procedure + ", " + what + ")", x.ofProcedure(procedure, what));
            }
        }
        for (int node = 0; node < x.many(2); node++) {
            for (int what = 0; what <= 7; what++) {
                add("ofNode(" + node + ", " + what + ")", x.ofNode(node, what));
            }
        }
        for (int k = 0; k < x.many(4); k++) {
            for (int what = 0; what <= 3; what++) {
                add("fault(" + k + ", " + what + ")", x.fault(k, what));
            }
        }
    }

    private void addCode() {
        for (int procedure = 0; procedure < x.many(1); procedure++) {
            for (int k = 0; k < x.ofProcedure(procedure, 3); k++) {
                for (int what = 0; what <= 4; what++) {
                    add("code(" + procedure + ", " + k + ", " + what + ")", x.code(procedure, k, what));
                }
            }
            for (int k = 0; k < x.ofProcedure(procedure, 4); k++) {
                for (int what = 0; what <= 3; what++) {
                    add("row(" + procedure + ", " + k + ", " + what + ")", x.row(procedure, k, what));
                }
            }
        }
    }

    private void addRun() {
        for (int what = 0; what <= 9; what++) {
            add("ofRun(" + what + ")", x.ofRun(what));
        }
        for (int k = 0; k < Math.min(40, x.ofRun(4)); k++) {
            for (int what = 0; what <= 2; what++) {
                add("printed(" + k + ", " + what + ")", x.printed(k, what));
            }
        }
        for (int e = 0; e < Math.min(40, x.ofRun(6)); e++) {
            for (int what = 0; what <= 4; what++) {
                add("exception(" + e + ", " + what + ")", x.exception(e, what));
            }
            for (int k = 0; k < x.exception(e, 3); k++) {
                add("suppressed(" + e + ", " + k + ")", x.suppressed(e, k));
            }
            for (int k = 0; k < x.exception(e, 4); k++) {
                add("trace(" + e + ", " + k + ")", x.trace(e, k));
            }
        }
        for (int which = 0; which <= 13; which++) {
            add("held(" + which + ")", x.held(which));
        }
        add("meanPrinted()", Double.doubleToLongBits(x.meanPrinted()));
    }

    private void addQuestions() {
        for (int what = 0; what <= 8 && x.many(4) == 0; what++) {
            add("wouldRun(9, 2, " + what + ")", x.wouldRun(9, 2, what));
        }
        for (int node = 0; node < x.many(2); node++) {
            add("catcher(" + node + ", 0)", x.catcher(node, 0));
            add("catcher(" + node + ", 3)", x.catcher(node, 3));
        }
        for (int procedure = 0; procedure < x.many(1); procedure++) {
            add("faultsWith(" + procedure + ", 1)", x.faultsWith(procedure, 1));
        }
        add("digest()", x.digest());
    }

    private void addLater() {
        tell("kind(0, true)", () -> x.kind(0, true));
        tell("procedure(1)", () -> x.procedure(1));
        tell("tell(0, 3)", () -> x.tell(0, 3));
        tell("node(3, 0, 8, 0)", () -> x.node(3, 0, 8, 0));
        tell("prune(true)", () -> x.prune(true) ? 1 : 0);
        tell("limits(100, 3)", () -> x.limits(100, 3));
        tell("digest()", x::digest);
        for (int procedure = 0; procedure < x.many(1); procedure++) {
            int one = procedure;
            if (x.ofProcedure(one, 1) == -1) {
                tell("body(" + one + ", last)", () -> x.body(one, x.many(2) - 1));
            }
        }
        tell("run()", x::run);
        tell("digest()", x::digest);
    }
}
