import java.util.ArrayList;
import java.util.HashMap;
import java.util.List;
import java.util.Map;

/**
 * The document once more, written down another way: it runs the NODES themselves, by Java's own exceptions, and
 * lays code with GAPS that are noted as ranges. What UnwindTower answers is held against it.
 */
final class Model {
    static final int NONE = -1;
    static final int SET = 0, ADD = 1, DIV = 2, PRINT = 3, SEQ = 4, IF = 5, LOOP = 6, BREAK = 7, RETURN = 8, CALL = 9,
            THROW = 10, TRY = 11, CATCH = 12, USING = 13, AGAIN = 14, WRAP = 15, KEEP = 16, LINK = 17, THROWN = 18;

    record Node(int sort, int a, int b, int c) {
    }

    final List<Integer> parents = new ArrayList<>(List.of(NONE, 0, 0, 0, 0));
    final List<Boolean> checkedSelf = new ArrayList<>(List.of(false, false, false, false, false));
    final List<Integer> tells = new ArrayList<>(List.of(0));
    final List<Integer> bodies = new ArrayList<>(List.of(NONE));
    final List<Node> nodes = new ArrayList<>();
    boolean prune = false;

    // ---- classes

    boolean atOrBelow(int kind, int upper) {
        return kind == upper || kind != 0 && atOrBelow(parents.get(kind), upper);
    }

    boolean isChecked(int kind) {
        for (int k = 0; k < parents.size(); k++) {
            if (atOrBelow(kind, k) && checkedSelf.get(k)) {
                return true;
            }
        }
        return false;
    }

    boolean anyUpper(int kind, int set) {
        for (int k = 0; k < parents.size(); k++) {
            if ((set & 1 << k) != 0 && atOrBelow(kind, k)) {
                return true;
            }
        }
        return false;
    }

    // ---- nodes

    List<Integer> parts(int n) {
        Node node = nodes.get(n);
        List<Integer> all = switch (node.sort) {
            case SEQ, IF, CATCH -> List.of(node.b, node.c);
            case LOOP, USING -> List.of(node.b);
            case TRY -> List.of(node.a, node.b, node.c);
            default -> List.of();
        };
        return all.stream().filter(part -> part != NONE).toList();
    }

    int around(int n) {
        for (int k = n + 1; k < nodes.size(); k++) {
            if (parts(k).contains(n)) {
                return k;
            }
        }
        return NONE;
    }

    int in(int n) {
        int outer = around(n);
        return outer == NONE ? bodies.indexOf(n) : in(outer);
    }

    int catchAround(int n) {
        int outer = around(n);
        if (outer == NONE) {
            return NONE;
        }
        return nodes.get(outer).sort == CATCH && nodes.get(outer).b == n ? outer : catchAround(outer);
    }

    boolean hasLoop(int n) {
        int outer = around(n);
        return outer != NONE && (nodes.get(outer).sort == LOOP || hasLoop(outer));
    }

    List<Integer> catches(int tried) {
        List<Integer> all = new ArrayList<>();
        for (int k = nodes.get(tried).c; k != NONE; k = nodes.get(k).c) {
            all.add(k);
        }
        return all;
    }

    int told(int procedure) {
        return procedure == NONE ? 0 : tells.get(procedure);
    }

    int can(int n) {
        if (n == NONE) {
            return 0;
        }
        Node x = nodes.get(n);
        switch (x.sort) {
            case THROW, WRAP:
                return 1 << x.a;
            case AGAIN:
                return catchAround(n) == NONE ? 0 : 1 << nodes.get(catchAround(n)).a;
            case CALL:
                return told(x.b);
            case USING:
                return told(x.a) | told(x.c) | can(x.b);
            case SEQ, IF, LOOP:
                return parts(n).stream().mapToInt(this::can).reduce(0, (p, q) -> p | q);
            case CATCH:
                return can(x.b);
            case TRY:
                int set = 0;
                int ofB = can(x.b);
                for (int kind = 0; kind < parents.size(); kind++) {
                    int k = kind;
                    boolean isCaught = catches(n).stream().anyMatch(one -> atOrBelow(k, nodes.get(one).a));
                    if ((ofB & 1 << kind) != 0 && !isCaught) {
                        set |= 1 << kind;
                    }
                }
                for (int one : catches(n)) {
                    set |= can(one);
                }
                if (x.a != NONE && neverEnds(x.a)) {
                    set = 0;
                }
                return set | can(x.a);
            default:
                return 0;
        }
    }

    boolean neverEnds(int n) {
        Node x = nodes.get(n);
        return switch (x.sort) {
            case BREAK, RETURN, THROW, AGAIN, WRAP, THROWN -> true;
            case SEQ -> neverEnds(x.b) || neverEnds(x.c);
            case IF -> x.c != NONE && neverEnds(x.b) && neverEnds(x.c);
            case USING, CATCH -> neverEnds(x.b);
            case TRY -> x.a != NONE && neverEnds(x.a)
                    || neverEnds(x.b) && catches(n).stream().allMatch(this::neverEnds);
            default -> false;
        };
    }

    int catcher(int n, int kind) {
        if (in(n) == NONE) {
            return NONE;
        }
        for (int inner = n, outer = around(n); outer != NONE; inner = outer, outer = around(outer)) {
            if (nodes.get(outer).sort == TRY && nodes.get(outer).b == inner) {
                for (int one : catches(outer)) {
                    if (atOrBelow(kind, nodes.get(one).a)) {
                        return one;
                    }
                }
            }
        }
        return NONE;
    }

    // ---- faults

    List<int[]> faults() {
        List<int[]> all = new ArrayList<>();
        for (int p = 0; p < bodies.size(); p++) {
            if (bodies.get(p) == NONE) {
                all.add(new int[] {10, p, NONE, NONE});
                continue;
            }
            nodeFaults(p, bodies.get(p), all);
            for (int kind = 0; kind < parents.size(); kind++) {
                if ((can(bodies.get(p)) & 1 << kind) != 0 && isChecked(kind) && !anyUpper(kind, tells.get(p))) {
                    all.add(new int[] {3, p, NONE, kind});
                }
            }
        }
        if (all.isEmpty()) {
            for (int p = 0; p < bodies.size(); p++) {
                if (new Layer(p).isTooLong()) {
                    all.add(new int[] {8, p, NONE, NONE});
                }
            }
        }
        return all;
    }

    private void nodeFaults(int p, int n, List<int[]> all) {
        int which = faultOf(n);
        if (which != 0) {
            all.add(new int[] {which, p, n, NONE});
        }
        for (int part : parts(n)) {
            nodeFaults(p, part, all);
        }
    }

    private int faultOf(int n) {
        Node x = nodes.get(n);
        if (x.sort == CATCH) {
            int tried = around(n);
            while (nodes.get(tried).sort != TRY) {
                tried = around(tried);
            }
            for (int one : catches(tried)) {
                if (one == n) {
                    break;
                }
                if (atOrBelow(x.a, nodes.get(one).a)) {
                    return 1;
                }
            }
            boolean isIdle = true;
            int ofB = can(nodes.get(tried).b);
            for (int kind = 0; kind < parents.size(); kind++) {
                if ((ofB & 1 << kind) != 0 && atOrBelow(kind, x.a)) {
                    isIdle = false;
                }
            }
            return isIdle && isChecked(x.a) ? 2 : 0;
        }
        if (x.sort == BREAK && !hasLoop(n)) {
            return 4;
        }
        if (x.sort >= AGAIN && x.sort <= LINK && catchAround(n) == NONE) {
            return 5;
        }
        return x.sort == SEQ && neverEnds(x.b) ? 7 : 0;
    }

    // ---- code

    /** A TRY or USING as it is laid, with its GAPS. */
    private static final class Guard {
        final int node;
        final Guard outer;
        final Env around;
        final List<int[]> gaps = new ArrayList<>();

        Guard(int node, Guard outer, Env around) {
            this.node = node;
            this.outer = outer;
            this.around = around;
        }
    }

    private static final class Exit {
        final Guard guard;
        final List<Integer> breaks = new ArrayList<>();

        Exit(Guard guard) {
            this.guard = guard;
        }
    }

    private record Env(Guard guard, int d, int h, int ofCatch, Exit loop) {
    }

    static final class TooLong extends RuntimeException {
        private static final long serialVersionUID = 1;

        TooLong() {
            super(null, null, false, false);
        }
    }

    final class Layer {
        final List<int[]> code = new ArrayList<>();
        final List<int[]> rows = new ArrayList<>();
        final Map<Integer, Integer> begins = new HashMap<>();

        Layer(int procedure) {
            try {
                lay(bodies.get(procedure), new Env(null, 0, 0, NONE, null));
                put(7, 0, 0, 0);
                put(8, 0, 0, 0);
            } catch (TooLong e) {
                rows.clear();
            }
        }

        boolean isTooLong() {
            return code.size() > 300;
        }

        private int put(int op, int x, int y, int z) {
            code.add(new int[] {op, x, y, z});
            if (code.size() > 300) {
                throw new TooLong();
            }
            return code.size() - 1;
        }

        private int here() {
            return code.size();
        }

        private void goesHere(int place) {
            code.get(place)[1] = here();
        }

        private void begin() {
            begins.merge(here(), 1, Integer::sum);
        }

        private void lay(int n, Env env) {
            begin();
            Node x = nodes.get(n);
            switch (x.sort) {
                case SET, ADD, DIV -> put(x.sort + 1, x.a, x.b, 0);
                case PRINT -> put(4, x.b, 0, 0);
                case SEQ -> {
                    lay(x.b, env);
                    lay(x.c, env);
                }
                case IF -> {
                    int unless = put(5, 0, x.a, 0);
                    lay(x.b, env);
                    if (x.c == NONE) {
                        goesHere(unless);
                    } else {
                        int skip = put(6, 0, 0, 0);
                        goesHere(unless);
                        lay(x.c, env);
                        goesHere(skip);
                    }
                }
                case LOOP -> {
                    put(20, 0, 0, 0);
                    int unless = put(5, 0, 100 + x.a, 0);
                    Exit exit = new Exit(env.guard);
                    lay(x.b, new Env(env.guard, env.d, env.h, env.ofCatch, exit));
                    put(6, unless, 0, 0);
                    goesHere(unless);
                    exit.breaks.forEach(this::goesHere);
                }
                case BREAK -> {
                    List<Guard> left = new ArrayList<>();
                    List<Integer> starts = new ArrayList<>();
                    wayOut(env, env.loop.guard, left, starts);
                    env.loop.breaks.add(put(6, 0, 0, 0));
                    gaps(left, starts);
                }
                case RETURN -> {
                    put(7, x.b, env.h, 0);
                    List<Guard> left = new ArrayList<>();
                    List<Integer> starts = new ArrayList<>();
                    wayOut(env, null, left, starts);
                    put(8, env.h, 0, 0);
                    gaps(left, starts);
                }
                case CALL -> put(9, x.a, x.b, 0);
                case THROW -> put(10, x.a, x.b, 0);
                case AGAIN -> put(12, env.ofCatch, 0, 0);
                case WRAP -> put(13, x.a, x.b, env.ofCatch);
                case KEEP -> put(14, x.a, env.ofCatch, 0);
                case LINK -> put(15, x.a, env.ofCatch, 0);
                case THROWN -> put(16, x.a, 0, 0);
                case TRY -> layTry(n, x, env);
                case USING -> layUsing(n, x, env);
                default -> throw new IllegalStateException();
            }
        }

        private void wayOut(Env env, Guard until, List<Guard> left, List<Integer> starts) {
            for (Guard g = env.guard; g != until; g = g.outer) {
                left.add(g);
                starts.add(here());
                Node x = nodes.get(g.node);
                if (x.sort == TRY && x.a != NONE) {
                    lay(x.a, new Env(g.outer, env.d, env.h + 1, g.around.ofCatch, g.around.loop));
                } else if (x.sort == USING && x.c != NONE) {
                    put(17, x.c, 0, 0);
                }
            }
        }

        private void gaps(List<Guard> left, List<Integer> starts) {
            for (int k = 0; k < left.size(); k++) {
                left.get(k).gaps.add(new int[] {starts.get(k), here()});
            }
        }

        private void layFinally(Node x, Env env, int d) {
            if (x.a != NONE) {
                lay(x.a, new Env(env.guard, d, env.h + 1, env.ofCatch, env.loop));
            }
        }

        private void layTry(int n, Node x, Env env) {
            Guard guard = new Guard(n, env.guard, env);
            List<Integer> skips = new ArrayList<>();
            int from = here();
            lay(x.b, new Env(guard, env.d, env.h, env.ofCatch, env.loop));
            int to = here();
            layFinally(x, env, env.d);
            skips.add(put(6, 0, 0, 0));
            List<int[]> caught = new ArrayList<>();
            for (int one : catches(n)) {
                int start = here();
                begin();
                put(11, env.d, 0, 0);
                lay(nodes.get(one).b, new Env(guard, env.d + 1, env.h, env.d, env.loop));
                caught.add(new int[] {start, here(), nodes.get(one).a});
                layFinally(x, env, env.d);
                skips.add(put(6, 0, 0, 0));
            }
            if (x.a == NONE) {
                skips.remove(skips.size() - 1);
                code.remove(code.size() - 1);
            }
            int last = here();
            if (x.a != NONE) {
                put(11, env.d, 0, 0);
                layFinally(x, env, env.d + 1);
                put(12, env.d, 0, 0);
            }
            skips.forEach(this::goesHere);
            for (int[] one : caught) {
                pieces(guard, from, to, one[0], one[2]);
            }
            if (x.a != NONE) {
                pieces(guard, from, to, last, NONE);
                for (int[] one : caught) {
                    pieces(guard, one[0], one[1], last, NONE);
                }
            }
        }

        private void layUsing(int n, Node x, Env env) {
            Guard guard = new Guard(n, env.guard, env);
            if (x.a != NONE) {
                put(18, x.a, 0, 0);
            }
            int from = here();
            lay(x.b, new Env(guard, env.d, env.h, env.ofCatch, env.loop));
            int to = here();
            if (x.c != NONE) {
                put(17, x.c, 0, 0);
                int skip = put(6, 0, 0, 0);
                int caught = put(11, env.d, 0, 0);
                int close = put(17, x.c, 0, 0);
                put(12, env.d, 0, 0);
                int suppress = put(19, env.d, 0, 0);
                goesHere(skip);
                pieces(guard, from, to, caught, NONE);
                rows.add(new int[] {close, close + 1, suppress, NONE});
            }
        }

        private void pieces(Guard guard, int from, int to, int at, int kind) {
            List<int[]> left = new ArrayList<>();
            left.add(new int[] {from, to});
            for (int[] gap : guard.gaps) {
                List<int[]> cut = new ArrayList<>();
                for (int[] piece : left) {
                    if (gap[1] <= piece[0] || gap[0] >= piece[1]) {
                        cut.add(piece);
                    } else {
                        cut.add(new int[] {piece[0], Math.max(piece[0], gap[0])});
                        cut.add(new int[] {Math.min(piece[1], gap[1]), piece[1]});
                    }
                }
                left = cut;
            }
            for (int[] piece : left) {
                boolean isWorth = !prune;
                for (int k = piece[0]; k < piece[1]; k++) {
                    isWorth |= List.of(3, 9, 10, 12, 13, 15, 16, 17, 18, 19).contains(code.get(k)[0]);
                }
                if (piece[0] < piece[1] && isWorth) {
                    rows.add(new int[] {piece[0], piece[1], at, kind});
                }
            }
        }
    }

    // ---- runs

    private static class Way extends RuntimeException {
        private static final long serialVersionUID = 1;

        Way() {
            super(null, null, false, false);
        }
    }

    private static final class ByBreak extends Way {
        private static final long serialVersionUID = 1;
    }

    private static final class ByReturn extends Way {
        private static final long serialVersionUID = 1;
        final int value;

        ByReturn(int value) {
            this.value = value;
        }
    }

    private static final class ByException extends Way {
        private static final long serialVersionUID = 1;
        final int exception;

        ByException(int exception) {
            this.exception = exception;
        }
    }

    /** No Way: nothing is done on it. */
    private static final class CutOff extends RuntimeException {
        private static final long serialVersionUID = 1;

        CutOff() {
            super(null, null, false, false);
        }
    }

    static final class Made {
        final int kind;
        final int number;
        int cause;
        final List<Integer> trace = new ArrayList<>();
        final List<Integer> suppressed = new ArrayList<>();

        Made(int kind, int number, int cause) {
            this.kind = kind;
            this.number = number;
            this.cause = cause;
        }
    }

    final class Run {
        final int most;
        final int deep;
        int result;
        int gave = 0;
        int ended = NONE;
        int steps = 0;
        int calls = 0;
        int deepest = 0;
        int suppressions = 0;
        final List<int[]> prints = new ArrayList<>();
        final List<Made> made = new ArrayList<>();
        final int[] variables = new int[10];
        final int[] slots = {NONE, NONE, NONE, NONE};
        final int[] begun = new int[90];
        final int[] called = new int[8];
        private final List<Integer> callers = new ArrayList<>();
        private final List<Integer> caught = new ArrayList<>();
        private int depth = 0;

        Run(int most, int deep) {
            this.most = most;
            this.deep = deep;
            try {
                gave = enter(0);
                result = 0;
            } catch (ByException e) {
                result = 1;
                ended = e.exception;
            } catch (CutOff e) {
                result = 2;
            }
        }

        int told(int what) {
            return new int[] {result, gave, ended, steps, prints.size(), calls, made.size(), deepest, suppressions}[what];
        }

        private int value(int x) {
            return x >= 100 ? variables[x - 100] : x;
        }

        private int enter(int procedure) {
            depth++;
            calls++;
            called[procedure]++;
            deepest = Math.max(deepest, depth);
            try {
                exec(bodies.get(procedure));
                return 0;
            } catch (ByReturn e) {
                return e.value;
            } finally {
                depth--;
            }
        }

        private int call(int procedure, int node) {
            if (depth + 1 > deep) {
                throw make(1, 0, NONE, node);
            }
            callers.add(0, node);
            List<Integer> before = new ArrayList<>(caught);
            try {
                return enter(procedure);
            } finally {
                callers.remove(0);
                caught.clear();
                caught.addAll(before);
            }
        }

        private ByException make(int kind, int number, int cause, int node) {
            Made one = new Made(kind, number, cause);
            one.trace.add(node);
            for (int k = 0; k < callers.size() && one.trace.size() < 6; k++) {
                one.trace.add(callers.get(k));
            }
            made.add(one);
            return new ByException(made.size() - 1);
        }

        private void begin(int n) {
            if (steps == most) {
                throw new CutOff();
            }
            steps++;
            begun[n]++;
        }

        private void exec(int n) {
            begin(n);
            Node x = nodes.get(n);
            switch (x.sort) {
                case SET -> variables[x.a] = value(x.b);
                case ADD -> variables[x.a] += value(x.b);
                case DIV -> {
                    if (value(x.b) == 0) {
                        throw make(3, 0, NONE, n);
                    }
                    variables[x.a] /= value(x.b);
                }
                case PRINT -> prints.add(new int[] {value(x.b), steps, n});
                case SEQ -> {
                    exec(x.b);
                    exec(x.c);
                }
                case IF -> {
                    if (value(x.a) > 0) {
                        exec(x.b);
                    } else if (x.c != NONE) {
                        exec(x.c);
                    }
                }
                case LOOP -> {
                    try {
                        while (variables[x.a] > 0) {
                            exec(x.b);
                        }
                    } catch (ByBreak e) {
                        return;
                    }
                }
                case BREAK -> throw new ByBreak();
                case RETURN -> throw new ByReturn(value(x.b));
                case CALL -> variables[x.a] = call(x.b, n);
                case THROW -> throw make(x.a, value(x.b), NONE, n);
                case TRY -> execTry(n, x);
                case USING -> execUsing(n, x);
                case AGAIN -> throw new ByException(caught.get(0));
                case WRAP -> throw make(x.a, value(x.b), caught.get(0), n);
                case KEEP -> slots[x.a] = caught.get(0);
                case LINK -> link(n, slots[x.a], caught.get(0));
                case THROWN -> {
                    if (slots[x.a] == NONE) {
                        throw make(4, 0, NONE, n);
                    }
                    throw new ByException(slots[x.a]);
                }
                default -> throw new IllegalStateException();
            }
        }

        private void link(int n, int held, int what) {
            for (int e = held; e != NONE; e = made.get(e).cause) {
                if (e == what) {
                    throw make(2, 0, NONE, n);
                }
            }
            if (held != NONE) {
                made.get(what).cause = held;
            }
        }

        private void execTry(int n, Node x) {
            Way way = null;
            try {
                exec(x.b);
            } catch (ByException e) {
                way = handle(n, e);
            } catch (Way e) {
                way = e;
            }
            if (x.a != NONE) {
                exec(x.a);
            }
            if (way != null) {
                throw way;
            }
        }

        private Way handle(int n, ByException thrown) {
            for (int one : catches(n)) {
                if (atOrBelow(made.get(thrown.exception).kind, nodes.get(one).a)) {
                    caught.add(0, thrown.exception);
                    try {
                        begin(one);
                        exec(nodes.get(one).b);
                        return null;
                    } catch (Way way) {
                        return way;
                    } finally {
                        caught.remove(0);
                    }
                }
            }
            return thrown;
        }

        private void execUsing(int n, Node x) {
            if (x.a != NONE) {
                call(x.a, n);
            }
            Way way = null;
            try {
                exec(x.b);
            } catch (Way e) {
                way = e;
            }
            if (x.c != NONE) {
                try {
                    call(x.c, n);
                } catch (ByException e) {
                    if (!(way instanceof ByException first)) {
                        throw e;
                    }
                    if (first.exception != e.exception) {
                        made.get(first.exception).suppressed.add(e.exception);
                        suppressions++;
                    }
                }
            }
            if (way != null) {
                throw way;
            }
        }
    }
}
