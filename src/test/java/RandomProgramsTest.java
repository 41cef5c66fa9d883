import java.util.List;

/** Holds programs of many shapes against the Model: what is wrong, their code, their tables, and their runs. */
public final class RandomProgramsTest {
    private static final int NONE = -1;
    private static final int SOUND = 3000;
    private static final int UNSOUND = 1500;

    private static int ran = 0;
    private static int tooLong = 0;
    private static int[] results = new int[3];

    private RandomProgramsTest() {
    }

    public static void main(String[] args) {
        for (int seed = 0; seed < SOUND + UNSOUND && Check.wrong() < 20; seed++) {
            Check.about("program " + seed);
            Programs programs = new Programs(seed, seed < SOUND);
            programs.make();
            compare(programs);
        }
        System.out.println(ran + " programs ran, " + tooLong + " were too long; results " + results[0] + " "
                + results[1] + " " + results[2]);
        Check.same("whether enough programs ran", ran > SOUND / 2, true);
        Check.same("whether some were too long", tooLong > 5, true);
        Check.end();
    }

    private static void compare(Programs programs) {
        Tower x = programs.tower;
        Model m = programs.model;
        compareNodes(x, m);
        List<int[]> faults = m.faults();
        compareFaults(programs, faults);
        boolean isSound = faults.isEmpty();
        compareCode(x, m, isSound);
        programs.prune(true);
        compareCode(x, m, isSound);
        if (isSound) {
            ran++;
            compareRun(x, m.new Run(800, 10), 800, 10);
            compareRun(x, m.new Run(1 + programs.below(60), 1 + programs.below(5)));
            compareRun(x, m.new Run(3000, 30));
            programs.prune(false);
            compareRun(x, m.new Run(1 + programs.below(400), 1 + programs.below(12)));
        } else {
            Check.illegalState("run()", x::run);
            Check.illegalState("wouldRun", () -> x.wouldRun(1, 1, 0));
            tooLong += faults.get(0)[0] == 8 ? 1 : 0;
        }
        Check.same("digest()", x.digest(), Digest.of(x));
    }

    private static void compareNodes(Tower x, Model m) {
        int inNone = 0;
        int[] catches = new int[m.parents.size()];
        for (int n = 0; n < m.nodes.size(); n++) {
            Model.Node node = m.nodes.get(n);
            int in = m.in(n);
            inNone += in == NONE ? 1 : 0;
            int[] due = {node.sort(), node.a(), node.b(), node.c(), in, m.can(n), m.neverEnds(n) ? 1 : 0};
            for (int what = 0; what < due.length; what++) {
                Check.same("ofNode(" + n + ", " + what + ")", x.ofNode(n, what), due[what]);
            }
            for (int kind = 0; kind < catches.length; kind++) {
                Check.same("catcher(" + n + ", " + kind + ")", x.catcher(n, kind), m.catcher(n, kind));
            }
            if (node.sort() == Model.CATCH && in != NONE) {
                catches[node.a()]++;
            }
        }
        Check.same("many(3)", x.many(3), inNone);
        for (int kind = 0; kind < catches.length; kind++) {
            int below = 0;
            for (int k = 0; k < catches.length; k++) {
                below |= m.atOrBelow(k, kind) ? 1 << k : 0;
            }
            int[] due = {m.parents.get(kind), m.isChecked(kind) ? 1 : 0, below, catches[kind]};
            for (int what = 0; what < due.length; what++) {
                Check.same("ofKind(" + kind + ", " + what + ")", x.ofKind(kind, what), due[what]);
            }
        }
    }

    private static void compareFaults(Programs programs, List<int[]> faults) {
        Tower x = programs.tower;
        Model m = programs.model;
        Check.same("many(4)", x.many(4), faults.size());
        for (int k = 0; k < faults.size(); k++) {
            for (int what = 0; what <= 3; what++) {
                Check.same("fault(" + k + ", " + what + ")", x.fault(k, what), faults.get(k)[what]);
            }
        }
        Check.outOfBounds("fault behind all", () -> x.fault(faults.size(), 0));
        int procedure = programs.below(m.bodies.size());
        int tells = programs.anySet();
        int before = m.tells.get(procedure);
        m.tells.set(procedure, tells);
        int due = m.faults().size();
        m.tells.set(procedure, before);
        Check.same("faultsWith(" + procedure + ", " + tells + ")", x.faultsWith(procedure, tells), due);
        Check.same("many(4) behind it", x.many(4), faults.size());
    }

    private static void compareCode(Tower x, Model m, boolean isSound) {
        int length = 0;
        int rows = 0;
        for (int p = 0; p < m.bodies.size(); p++) {
            int body = m.bodies.get(p);
            Check.same("ofProcedure(" + p + ", 2)", x.ofProcedure(p, 2), body == NONE ? 0 : m.can(body));
            if (isSound) {
                Model.Layer layer = m.new Layer(p);
                compareCode(x, p, layer);
                length += layer.code.size();
                rows += layer.rows.size();
            } else {
                int procedure = p;
                Check.same("ofProcedure(" + p + ", 3)", x.ofProcedure(p, 3), 0);
                Check.same("ofProcedure(" + p + ", 4)", x.ofProcedure(p, 4), 0);
                Check.outOfBounds("code", () -> x.code(procedure, 0, 0));
                Check.outOfBounds("row", () -> x.row(procedure, 0, 0));
            }
        }
        Check.same("many(5)", x.many(5), length);
        Check.same("many(6)", x.many(6), rows);
    }

    private static void compareCode(Tower x, int p, Model.Layer layer) {
        Check.same("ofProcedure(" + p + ", 3)", x.ofProcedure(p, 3), layer.code.size());
        Check.same("ofProcedure(" + p + ", 4)", x.ofProcedure(p, 4), layer.rows.size());
        for (int k = 0; k < layer.code.size(); k++) {
            for (int what = 0; what <= 3; what++) {
                Check.same("code(" + p + ", " + k + ", " + what + ")", x.code(p, k, what), layer.code.get(k)[what]);
            }
            Check.same("code(" + p + ", " + k + ", 4)", x.code(p, k, 4), layer.begins.getOrDefault(k, 0));
        }
        for (int k = 0; k < layer.rows.size(); k++) {
            for (int what = 0; what <= 3; what++) {
                Check.same("row(" + p + ", " + k + ", " + what + ")", x.row(p, k, what), layer.rows.get(k)[what]);
            }
        }
        Check.outOfBounds("code behind all", () -> x.code(p, layer.code.size(), 0));
        Check.outOfBounds("row behind all", () -> x.row(p, layer.rows.size(), 0));
    }

    private static void compareRun(Tower x, Model.Run due) {
        x.limits(due.most, due.deep);
        compareRun(x, due, due.most, due.deep);
    }

    private static void compareRun(Tower x, Model.Run due, int most, int deep) {
        for (int what = 0; what <= 8; what++) {
            Check.same("wouldRun(" + most + ", " + deep + ", " + what + ")", x.wouldRun(most, deep, what), due.told(what));
        }
        int before = x.ofRun(9);
        Check.same("run()", x.run(), due.result);
        results[due.result]++;
        Check.same("ofRun(9)", x.ofRun(9), before + 1);
        for (int what = 0; what <= 8; what++) {
            Check.same("ofRun(" + what + ")", x.ofRun(what), due.told(what));
        }
        comparePrints(x, due);
        compareExceptions(x, due);
        for (int v = 0; v < 10; v++) {
            Check.same("held(" + v + ")", x.held(v), due.variables[v]);
        }
        for (int s = 0; s < 4; s++) {
            Check.same("held(" + (10 + s) + ")", x.held(10 + s), due.slots[s]);
        }
        for (int n = 0; n < x.many(2); n++) {
            Check.same("ofNode(" + n + ", 7)", x.ofNode(n, 7), due.begun[n]);
        }
        for (int p = 0; p < x.many(1); p++) {
            Check.same("ofProcedure(" + p + ", 5)", x.ofProcedure(p, 5), due.called[p]);
        }
    }

    private static void comparePrints(Tower x, Model.Run due) {
        long sum = 0;
        for (int k = 0; k < due.prints.size(); k++) {
            sum += due.prints.get(k)[0];
            for (int what = 0; what <= 2 && k < 40; what++) {
                Check.same("printed(" + k + ", " + what + ")", x.printed(k, what), due.prints.get(k)[what]);
            }
        }
        int kept = Math.min(40, due.prints.size());
        Check.outOfBounds("printed behind all", () -> x.printed(kept, 0));
        Check.same("meanPrinted()", x.meanPrinted(), due.prints.isEmpty() ? 0.0 : (double) sum / due.prints.size());
    }

    private static void compareExceptions(Tower x, Model.Run due) {
        int[] ofKind = new int[13];
        for (int e = 0; e < due.made.size(); e++) {
            Model.Made one = due.made.get(e);
            ofKind[one.kind]++;
            if (e < 40) {
                compareException(x, e, one);
            }
        }
        int kept = Math.min(40, due.made.size());
        Check.outOfBounds("exception behind all", () -> x.exception(kept, 0));
        for (int kind = 0; kind < x.many(0); kind++) {
            Check.same("ofKind(" + kind + ", 4)", x.ofKind(kind, 4), ofKind[kind]);
        }
    }

    private static void compareException(Tower x, int e, Model.Made one) {
        int[] due = {one.kind, one.number, one.cause, one.suppressed.size(), one.trace.size()};
        for (int what = 0; what < due.length; what++) {
            Check.same("exception(" + e + ", " + what + ")", x.exception(e, what), due[what]);
        }
        for (int k = 0; k < one.suppressed.size(); k++) {
            Check.same("suppressed(" + e + ", " + k + ")", x.suppressed(e, k), one.suppressed.get(k));
        }
        for (int k = 0; k < one.trace.size(); k++) {
            Check.same("trace(" + e + ", " + k + ")", x.trace(e, k), one.trace.get(k));
        }
        Check.outOfBounds("suppressed behind all", () -> x.suppressed(e, one.suppressed.size()));
        Check.outOfBounds("trace behind all", () -> x.trace(e, one.trace.size()));
    }
}
