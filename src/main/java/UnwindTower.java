import java.util.Arrays;

/**
 * A compiler of a small language whose statements throw, catch, end and close, to code with tables of ranges,
 * and the machine that unwinds by these. What each call promises stands in the document, by the numbers that
 * the headings below bear.
 */
public final class UnwindTower {
    private static final int NONE = -1;
    private static final int MAIN = 0;

    private static final int MAX_KINDS = 13;
    private static final int MAX_PROCEDURES = 8;
    private static final int MAX_NODES = 90;
    private static final int MAX_CODE = 300;
    private static final int MAX_MOST = 3000;
    private static final int MAX_DEEP = 30;
    private static final int VARIABLES = 10;
    private static final int SLOTS = 4;
    /** The OPERAND that stands for what VARIABLE 0 holds. */
    private static final int FIRST_HELD = 100;
    private static final int KEPT = 40;

    private static final int ROOT = 0;
    private static final int OVERFLOW = 1;
    private static final int RING = 2;
    private static final int ZERO = 3;
    private static final int EMPTY = 4;

    private final Program program;
    private final Faults faults;
    private final Table table;
    private final Code[] codes;
    private final Compiler compiler;
    /** The latest run. */
    private final Machine machine;
    /** Runs that only would be. */
    private final Machine spare;
    private boolean isPruned;
    private boolean isStale;
    private int most;
    private int deep;
    private int runs;

    // ---- Promise 1

    public UnwindTower() {
        program = new Program();
        faults = new Faults(program);
        table = new Table();
        codes = new Code[MAX_PROCEDURES];
        for (int p = 0; p < MAX_PROCEDURES; p++) {
            codes[p] = new Code();
        }
        compiler = new Compiler(program, codes, table);
        machine = new Machine(program, codes, table);
        spare = new Machine(program, codes, table);
        isStale = true;
        most = 800;
        deep = 10;
    }

    // ---- classes and procedures: promises 2 to 6

    public int kind(int parent, boolean isChecked) throws IndexOutOfBoundsException, IllegalStateException {
        if (!program.hasKind(parent)) {
            throw new IndexOutOfBoundsException("no such PARENT");
        }
        if (program.kinds >= MAX_KINDS) {
            throw new IllegalStateException("there are 13 CLASSES");
        }
        isStale = true;
        return program.addKind(parent, isChecked);
    }

    public int ofKind(int kind, int what) throws IndexOutOfBoundsException, IllegalArgumentException {
        if (!program.hasKind(kind)) {
            throw new IndexOutOfBoundsException("no such CLASS");
        }
        if (what < 0 || what > 4) {
            throw new IllegalArgumentException("what is not 0 to 4");
        }
        refresh();
        return readKind(kind, what);
    }

    public int procedure(int tells) throws IllegalArgumentException, IllegalStateException {
        if (!program.isSet(tells)) {
            throw new IllegalArgumentException("no set of CLASSES");
        }
        if (program.procedures >= MAX_PROCEDURES) {
            throw new IllegalStateException("there are 8 PROCEDURES");
        }
        isStale = true;
        return program.addProcedure(tells);
    }

    public int tell(int procedure, int tells) throws IndexOutOfBoundsException, IllegalArgumentException {
        if (!program.hasProcedure(procedure)) {
            throw new IndexOutOfBoundsException("no such PROCEDURE");
        }
        if (!program.isSet(tells)) {
            throw new IllegalArgumentException("no set of CLASSES");
        }
        int before = at(program.tells, procedure);
        put(program.tells, procedure, tells);
        isStale = true;
        return before;
    }

    public int ofProcedure(int procedure, int what) throws IndexOutOfBoundsException, IllegalArgumentException {
        if (!program.hasProcedure(procedure)) {
            throw new IndexOutOfBoundsException("no such PROCEDURE");
        }
        if (what < 0 || what > 5) {
            throw new IllegalArgumentException("what is not 0 to 5");
        }
        refresh();
        return readProcedure(procedure, what);
    }

    // ---- nodes: promises 7 to 10

    public int node(int sort, int a, int b, int c) throws IllegalArgumentException, IllegalStateException {
        if (!program.isNode(sort, a, b, c)) {
            throw new IllegalArgumentException("that is no NODE");
        }
        if (program.nodes >= MAX_NODES) {
            throw new IllegalStateException("there are 90 NODES");
        }
        isStale = true;
        return program.addNode(sort, a, b, c);
    }

    public int body(int procedure, int node)
            throws IndexOutOfBoundsException, IllegalArgumentException, IllegalStateException {
        if (!program.hasProcedure(procedure) || !program.hasNode(node)) {
            throw new IndexOutOfBoundsException("no such PROCEDURE, or NODE");
        }
        if (!program.isStatement(node)) {
            throw new IllegalArgumentException("no STATEMENT");
        }
        if (!program.isFree(node)) {
            throw new IllegalStateException("part of a NODE, or a BODY");
        }
        isStale = true;
        return program.setBody(procedure, node);
    }

    public int ofNode(int node, int what) throws IndexOutOfBoundsException, IllegalArgumentException {
        if (!program.hasNode(node)) {
            throw new IndexOutOfBoundsException("no such NODE");
        }
        if (what < 0 || what > 7) {
            throw new IllegalArgumentException("what is not 0 to 7");
        }
        refresh();
        return readNode(node, what);
    }

    public int fault(int k, int what) throws IndexOutOfBoundsException, IllegalArgumentException {
        refresh();
        if (k < 0 || k >= faults.count) {
            throw new IndexOutOfBoundsException("no such FAULT");
        }
        if (what < 0 || what > 3) {
            throw new IllegalArgumentException("what is not 0 to 3");
        }
        return faults.read(k, what);
    }

    // ---- code and tables: promises 11 to 13

    public boolean prune(boolean isOn) {
        boolean before = isPruned;
        isPruned = isOn;
        isStale = true;
        return before;
    }

    public int code(int procedure, int k, int what) throws IndexOutOfBoundsException, IllegalArgumentException {
        refresh();
        if (!program.hasProcedure(procedure) || k < 0 || k >= lengthOf(procedure)) {
            throw new IndexOutOfBoundsException("no such place");
        }
        if (what < 0 || what > 4) {
            throw new IllegalArgumentException("what is not 0 to 4");
        }
        return codeAt(codes, procedure).read(k, what);
    }

    public int row(int procedure, int k, int what) throws IndexOutOfBoundsException, IllegalArgumentException {
        refresh();
        if (!program.hasProcedure(procedure) || k < 0 || k >= rowsOf(procedure)) {
            throw new IndexOutOfBoundsException("no such ROW");
        }
        if (what < 0 || what > 3) {
            throw new IllegalArgumentException("what is not 0 to 3");
        }
        return table.read(codeAt(codes, procedure).firstRow + k, what);
    }

    // ---- runs: promises 14 to 23

    public int limits(int most, int deep) throws IllegalArgumentException {
        if (!areLimits(most, deep)) {
            throw new IllegalArgumentException("most is not 1 to 3000, or deep is not 1 to 30");
        }
        int before = this.most;
        this.most = most;
        this.deep = deep;
        return before;
    }

    public int run() throws IllegalStateException {
        refresh();
        if (faults.count > 0) {
            throw new IllegalStateException("there are FAULTS");
        }
        machine.perform(most, deep);
        runs++;
        return at(machine.told, Machine.RESULT);
    }

    public int ofRun(int what) throws IllegalArgumentException {
        if (what < 0 || what > 9) {
            throw new IllegalArgumentException("what is not 0 to 9");
        }
        return readRun(what);
    }

    public int printed(int k, int what) throws IndexOutOfBoundsException, IllegalArgumentException {
        if (k < 0 || k >= machine.keptPrints()) {
            throw new IndexOutOfBoundsException("no such number is kept");
        }
        if (what < 0 || what > 2) {
            throw new IllegalArgumentException("what is not 0 to 2");
        }
        return machine.readPrint(k, what);
    }

    public int exception(int exception, int what) throws IndexOutOfBoundsException, IllegalArgumentException {
        if (!machine.thrown.isKept(exception)) {
            throw new IndexOutOfBoundsException("no such EXCEPTION is kept");
        }
        if (what < 0 || what > 4) {
            throw new IllegalArgumentException("what is not 0 to 4");
        }
        return machine.thrown.read(exception, what);
    }

    public int suppressed(int exception, int k) throws IndexOutOfBoundsException {
        Thrown thrown = machine.thrown;
        if (!thrown.isKept(exception) || k < 0 || k >= at(thrown.under, exception)) {
            throw new IndexOutOfBoundsException("no such EXCEPTION, or number");
        }
        int link = at(thrown.firstUnder, exception);
        for (int i = 0; i < k; i++) {
            link = at(thrown.nextUnder, link);
        }
        return at(thrown.whichUnder, link);
    }

    public int trace(int exception, int k) throws IndexOutOfBoundsException {
        Thrown thrown = machine.thrown;
        if (!thrown.isKept(exception) || k < 0 || k >= at(thrown.traceLength, exception)) {
            throw new IndexOutOfBoundsException("no such EXCEPTION, or place");
        }
        return thrown.readTrace(exception, k);
    }

    public int held(int which) throws IndexOutOfBoundsException {
        if (which < 0 || which >= VARIABLES + SLOTS) {
            throw new IndexOutOfBoundsException("which is not 0 to 13");
        }
        return readHeld(which);
    }

    public double meanPrinted() {
        int count = at(machine.told, Machine.PRINTS);
        return count == 0 ? 0.0 : (double) machine.printSum / count;
    }

    public int many(int what) throws IllegalArgumentException {
        if (what < 0 || what > 9) {
            throw new IllegalArgumentException("what is not 0 to 9");
        }
        refresh();
        return readMany(what);
    }

    // ---- what would be: promises 24 to 27

    public int wouldRun(int most, int deep, int what) throws IllegalArgumentException, IllegalStateException {
        if (!areLimits(most, deep) || what < 0 || what > 8) {
            throw new IllegalArgumentException("most is not 1 to 3000, deep is not 1 to 30, or what is not 0 to 8");
        }
        refresh();
        if (faults.count > 0) {
            throw new IllegalStateException("there are FAULTS");
        }
        spare.perform(most, deep);
        return at(spare.told, what);
    }

    public int catcher(int node, int kind) throws IndexOutOfBoundsException {
        if (!program.hasNode(node) || !program.hasKind(kind)) {
            throw new IndexOutOfBoundsException("no such NODE, or CLASS");
        }
        refresh();
        return program.catchOf(node, kind);
    }

    public int faultsWith(int procedure, int tells) throws IndexOutOfBoundsException, IllegalArgumentException {
        if (!program.hasProcedure(procedure)) {
            throw new IndexOutOfBoundsException("no such PROCEDURE");
        }
        if (!program.isSet(tells)) {
            throw new IllegalArgumentException("no set of CLASSES");
        }
        int before = at(program.tells, procedure);
        put(program.tells, procedure, tells);
        isStale = true;
        refresh();
        int count = faults.count;
        put(program.tells, procedure, before);
        isStale = true;
        return count;
    }

    public long digest() {
        refresh();
        long d = 58128;
        for (int what = 0; what <= 9; what++) {
            d = d * 31 + readMany(what);
        }
        for (int kind = 0; kind < program.kinds; kind++) {
            for (int what = 0; what <= 4; what++) {
                d = d * 31 + readKind(kind, what);
            }
        }
        for (int procedure = 0; procedure < program.procedures; procedure++) {
            d = digestProcedure(d, procedure);
        }
        for (int node = 0; node < program.nodes; node++) {
            for (int what = 4; what <= 7; what++) {
                d = d * 31 + readNode(node, what);
            }
            d = d * 31 + program.catchOf(node, ROOT);
            d = d * 31 + program.catchOf(node, program.kinds - 1);
        }
        for (int k = 0; k < faults.count; k++) {
            for (int what = 0; what <= 3; what++) {
                d = d * 31 + faults.read(k, what);
            }
        }
        d = digestRun(d);
        if (faults.count == 0) {
            spare.perform(150, 4);
            for (int what = 0; what <= 8; what++) {
                d = d * 31 + at(spare.told, what);
            }
        }
        return d;
    }

    private long digestProcedure(long before, int procedure) {
        long d = before;
        for (int what = 0; what <= 5; what++) {
            d = d * 31 + readProcedure(procedure, what);
        }
        Code code = codeAt(codes, procedure);
        int length = lengthOf(procedure);
        for (int k = 0; k < length; k++) {
            for (int what = 0; what <= 4; what++) {
                d = d * 31 + code.read(k, what);
            }
        }
        int rows = rowsOf(procedure);
        for (int k = 0; k < rows; k++) {
            for (int what = 0; what <= 3; what++) {
                d = d * 31 + table.read(code.firstRow + k, what);
            }
        }
        return d;
    }

    private long digestRun(long before) {
        long d = before;
        for (int what = 0; what <= 9; what++) {
            d = d * 31 + readRun(what);
        }
        int prints = machine.keptPrints();
        for (int k = 0; k < prints; k++) {
            for (int what = 0; what <= 2; what++) {
                d = d * 31 + machine.readPrint(k, what);
            }
        }
        for (int exception = 0; exception < KEPT && machine.thrown.isKept(exception); exception++) {
            d = digestException(d, exception);
        }
        for (int which = 0; which < VARIABLES + SLOTS; which++) {
            d = d * 31 + readHeld(which);
        }
        return d;
    }

    private long digestException(long before, int exception) {
        Thrown thrown = machine.thrown;
        long d = before;
        for (int what = 0; what <= 4; what++) {
            d = d * 31 + thrown.read(exception, what);
        }
        int under = at(thrown.under, exception);
        int link = at(thrown.firstUnder, exception);
        for (int k = 0; k < under; k++) {
            d = d * 31 + at(thrown.whichUnder, link);
            link = at(thrown.nextUnder, link);
        }
        int length = at(thrown.traceLength, exception);
        for (int k = 0; k < length; k++) {
            d = d * 31 + thrown.readTrace(exception, k);
        }
        return d;
    }

    // ---- what the calls and the digest read; the caller has looked at what it asks for

    private int readKind(int kind, int what) {
        switch (what) {
            case 0:
                return at(program.parents, kind);
            case 1:
                return at(program.checked, kind);
            case 2:
                return at(program.below, kind);
            case 3:
                return program.countCatches(kind);
            default:
                return at(machine.thrown.ofEachKind, kind);
        }
    }

    private int readProcedure(int procedure, int what) {
        switch (what) {
            case 0:
                return at(program.tells, procedure);
            case 1:
                return at(program.bodies, procedure);
            case 2:
                return program.canOfBody(procedure);
            case 3:
                return lengthOf(procedure);
            case 4:
                return rowsOf(procedure);
            default:
                return at(machine.called, procedure);
        }
    }

    private int readNode(int node, int what) {
        switch (what) {
            case 0:
                return at(program.sorts, node);
            case 1:
                return at(program.as, node);
            case 2:
                return at(program.bs, node);
            case 3:
                return at(program.cs, node);
            case 4:
                return at(program.in, node);
            case 5:
                return at(program.can, node);
            case 6:
                return at(program.never, node);
            default:
                return at(machine.begun, node);
        }
    }

    private int readRun(int what) {
        return what == 9 ? runs : at(machine.told, what);
    }

    private int readHeld(int which) {
        return which < VARIABLES ? at(machine.variables, which) : at(machine.slots, which - VARIABLES);
    }

    private int readMany(int what) {
        switch (what) {
            case 0:
                return program.kinds;
            case 1:
                return program.procedures;
            case 2:
                return program.nodes;
            case 3:
                return program.countInNone();
            case 4:
                return faults.count;
            case 5:
                return lengthOfAll();
            case 6:
                return faults.count > 0 ? 0 : table.count;
            case 7:
                return most;
            case 8:
                return deep;
            default:
                return isPruned ? 1 : 0;
        }
    }

    private int lengthOf(int procedure) {
        return faults.count > 0 ? 0 : codeAt(codes, procedure).length;
    }

    private int rowsOf(int procedure) {
        return faults.count > 0 ? 0 : codeAt(codes, procedure).rows;
    }

    private int lengthOfAll() {
        int length = 0;
        for (int p = 0; p < program.procedures; p++) {
            length += lengthOf(p);
        }
        return length;
    }

    private static boolean areLimits(int most, int deep) {
        return most >= 1 && most <= MAX_MOST && deep >= 1 && deep <= MAX_DEEP;
    }

    /** Faults, code and tables are made anew only when they are asked for and something has been told since. */
    private void refresh() {
        if (!isStale) {
            return;
        }
        isStale = false;
        program.derive();
        faults.find();
        if (faults.count > 0) {
            return;
        }
        table.count = 0;
        for (int p = 0; p < program.procedures; p++) {
            if (!compiler.layProcedure(p, isPruned)) {
                faults.add(Faults.TOO_LONG, p, NONE, NONE);
            }
        }
    }

    // ---- rows of numbers, each index looked at

    private static int at(int[] row, int k) {
        return k >= 0 && k < row.length ? row[k] : 0;
    }

    private static void put(int[] row, int k, int value) {
        if (k >= 0 && k < row.length) {
            row[k] = value;
        }
    }

    private static void increment(int[] row, int k) {
        if (k >= 0 && k < row.length) {
            row[k]++;
        }
    }

    private static Code codeAt(Code[] codes, int procedure) {
        return codes[procedure >= 0 && procedure < codes.length ? procedure : MAIN];
    }

    // ---- sections 1 and 2: what was told, and what follows from it

    private static final class Program {
        static final int SET = 0;
        static final int ADD = 1;
        static final int DIV = 2;
        static final int PRINT = 3;
        static final int SEQ = 4;
        static final int IF = 5;
        static final int LOOP = 6;
        static final int BREAK = 7;
        static final int RETURN = 8;
        static final int CALL = 9;
        static final int THROW = 10;
        static final int TRY = 11;
        static final int CATCH = 12;
        static final int USING = 13;
        static final int AGAIN = 14;
        static final int WRAP = 15;
        static final int KEEP = 16;
        static final int LINK = 17;
        static final int THROWN = 18;

        int kinds = EMPTY + 1;
        final int[] parents = new int[MAX_KINDS];
        final int[] checked = new int[MAX_KINDS];
        /** Of each CLASS the set of those that are AT OR BELOW it. */
        final int[] below = new int[MAX_KINDS];

        int procedures = 1;
        final int[] tells = new int[MAX_PROCEDURES];
        final int[] bodies = new int[MAX_PROCEDURES];

        int nodes;
        final int[] sorts = new int[MAX_NODES];
        final int[] as = new int[MAX_NODES];
        final int[] bs = new int[MAX_NODES];
        final int[] cs = new int[MAX_NODES];
        /** The NODE of which each is a part. */
        final int[] around = new int[MAX_NODES];
        /** The PROCEDURE of which each is the BODY itself. */
        final int[] bodyOf = new int[MAX_NODES];

        // derived from all that:
        final int[] in = new int[MAX_NODES];
        /** The innermost CATCH in whose b each NODE is. */
        final int[] catchAround = new int[MAX_NODES];
        final int[] loopAround = new int[MAX_NODES];
        final int[] can = new int[MAX_NODES];
        final int[] never = new int[MAX_NODES];

        Program() {
            for (int k = 0; k < kinds; k++) {
                parents[k] = k == ROOT ? NONE : ROOT;
                below[k] = 1 << k;
                below[ROOT] |= 1 << k;
            }
            for (int p = 0; p < MAX_PROCEDURES; p++) {
                bodies[p] = NONE;
            }
        }

        boolean hasKind(int kind) {
            return kind >= 0 && kind < kinds;
        }

        boolean hasProcedure(int procedure) {
            return procedure >= 0 && procedure < procedures;
        }

        boolean hasNode(int node) {
            return node >= 0 && node < nodes;
        }

        boolean isSet(int set) {
            return set >= 0 && set < 1 << kinds;
        }

        boolean isStatement(int node) {
            return at(sorts, node) != CATCH;
        }

        /** Whether a NODE can still become a part, or a BODY. */
        boolean isFree(int node) {
            return hasNode(node) && at(around, node) == NONE && at(bodyOf, node) == NONE;
        }

        boolean isAtOrBelow(int kind, int upper) {
            return (at(below, upper) >> kind & 1) == 1;
        }

        int addKind(int parent, boolean isChecked) {
            int kind = kinds;
            kinds++;
            put(parents, kind, parent);
            put(checked, kind, isChecked ? 1 : at(checked, parent));
            int upper = kind;
            for (int left = MAX_KINDS; upper >= 0 && left > 0; left--) {
                put(below, upper, at(below, upper) | 1 << kind);
                upper = at(parents, upper);
            }
            return kind;
        }

        int addProcedure(int told) {
            int procedure = procedures;
            procedures++;
            put(tells, procedure, told);
            return procedure;
        }

        int setBody(int procedure, int node) {
            int before = at(bodies, procedure);
            put(bodyOf, before, NONE);
            put(bodies, procedure, node);
            put(bodyOf, node, procedure);
            return before;
        }

        int addNode(int sort, int a, int b, int c) {
            int node = nodes;
            nodes++;
            put(sorts, node, sort);
            put(as, node, a);
            put(bs, node, b);
            put(cs, node, c);
            put(around, node, NONE);
            put(bodyOf, node, NONE);
            put(around, partA(node), node);
            put(around, partB(node), node);
            put(around, partC(node), node);
            return node;
        }

        // ---- the parts of a NODE, NONE where there is none

        int partA(int node) {
            return at(sorts, node) == TRY ? at(as, node) : NONE;
        }

        int partB(int node) {
            switch (at(sorts, node)) {
                case SEQ:
                case IF:
                case LOOP:
                case TRY:
                case CATCH:
                case USING:
                    return at(bs, node);
                default:
                    return NONE;
            }
        }

        int partC(int node) {
            switch (at(sorts, node)) {
                case SEQ:
                case IF:
                case TRY:
                case CATCH:
                    return at(cs, node);
                default:
                    return NONE;
            }
        }

        // ---- what a NODE has to be

        boolean isNode(int sort, int a, int b, int c) {
            switch (sort) {
                case SET:
                case ADD:
                case DIV:
                    return isVariable(a) && isOperand(b) && c == 0;
                case PRINT:
                case RETURN:
                    return a == 0 && isOperand(b) && c == 0;
                case SEQ:
                    return a == 0 && isFreeStatement(b) && isFreeStatement(c) && b != c;
                case IF:
                    return isOperand(a) && isFreeStatement(b) && (c == NONE || isFreeStatement(c)) && b != c;
                case LOOP:
                    return isVariable(a) && isFreeStatement(b) && c == 0;
                case BREAK:
                case AGAIN:
                    return a == 0 && b == 0 && c == 0;
                case CALL:
                    return isVariable(a) && hasProcedure(b) && c == 0;
                case THROW:
                case WRAP:
                    return hasKind(a) && isOperand(b) && c == 0;
                case TRY:
                    return isTry(a, b, c);
                case CATCH:
                    return hasKind(a) && isFreeStatement(b) && (c == NONE || isFreeCatch(c));
                case USING:
                    return isUsing(a, b, c);
                case KEEP:
                case LINK:
                case THROWN:
                    return a >= 0 && a < SLOTS && b == 0 && c == 0;
                default:
                    return false;
            }
        }

        private boolean isTry(int a, int b, int c) {
            if (a == NONE && c == NONE) {
                return false;
            }
            return isFreeStatement(b) && a != b && (a == NONE || isFreeStatement(a)) && (c == NONE || isFreeCatch(c));
        }

        private boolean isUsing(int a, int b, int c) {
            if (a == NONE && c == NONE) {
                return false;
            }
            return isFreeStatement(b) && (a == NONE || hasProcedure(a)) && (c == NONE || hasProcedure(c));
        }

        private boolean isVariable(int v) {
            return v >= 0 && v < VARIABLES;
        }

        private boolean isOperand(int x) {
            return x >= -99 && x <= 99 || x >= FIRST_HELD && x < FIRST_HELD + VARIABLES;
        }

        private boolean isFreeStatement(int node) {
            return isFree(node) && isStatement(node);
        }

        private boolean isFreeCatch(int node) {
            return isFree(node) && !isStatement(node);
        }

        // ---- what follows from what was told

        /** Parts have smaller numbers: what comes from around is handed down, what comes from parts is handed up. */
        void derive() {
            for (int node = nodes - 1; node >= 0; node--) {
                deriveFromAround(node);
            }
            for (int node = 0; node < nodes; node++) {
                put(can, node, canOf(node));
                put(never, node, neverEnds(node) ? 1 : 0);
            }
        }

        private void deriveFromAround(int node) {
            int outer = at(around, node);
            if (outer == NONE) {
                put(in, node, at(bodyOf, node));
                put(catchAround, node, NONE);
                put(loopAround, node, NONE);
                return;
            }
            int sort = at(sorts, outer);
            put(in, node, at(in, outer));
            put(catchAround, node, sort == CATCH && node == at(bs, outer) ? outer : at(catchAround, outer));
            put(loopAround, node, sort == LOOP ? outer : at(loopAround, outer));
        }

        private int canOf(int node) {
            int a = at(as, node);
            switch (at(sorts, node)) {
                case THROW:
                case WRAP:
                    return 1 << a;
                case AGAIN:
                    int caught = at(catchAround, node);
                    return caught == NONE ? 0 : 1 << at(as, caught);
                case CALL:
                    return at(tells, at(bs, node));
                case USING:
                    return toldOf(a) | toldOf(at(cs, node)) | canOfPart(at(bs, node));
                case TRY:
                    return canOfTry(node);
                case CATCH:
                    return canOfPart(at(bs, node));
                default:
                    return canOfPart(partB(node)) | canOfPart(partC(node));
            }
        }

        private int toldOf(int procedure) {
            return procedure == NONE ? 0 : at(tells, procedure);
        }

        private int canOfPart(int node) {
            return node == NONE ? 0 : at(can, node);
        }

        private int canOfTry(int node) {
            int open = canOfPart(at(bs, node));
            int ofCatches = 0;
            int next = at(cs, node);
            for (int left = MAX_NODES; next >= 0 && left > 0; left--) {
                open &= ~at(below, at(as, next));
                ofCatches |= at(can, next);
                next = at(cs, next);
            }
            int last = at(as, node);
            if (last != NONE && at(never, last) == 1) {
                return at(can, last);
            }
            return open | ofCatches | canOfPart(last);
        }

        int canOfBody(int procedure) {
            return canOfPart(at(bodies, procedure));
        }

        private boolean neverEnds(int node) {
            switch (at(sorts, node)) {
                case BREAK:
                case RETURN:
                case THROW:
                case AGAIN:
                case WRAP:
                case THROWN:
                    return true;
                case SEQ:
                    return isNever(at(bs, node)) || isNever(at(cs, node));
                case IF:
                    return isNever(at(bs, node)) && isNever(at(cs, node));
                case USING:
                case CATCH:
                    return isNever(at(bs, node));
                case TRY:
                    return isNever(at(as, node)) || neverPastTry(node);
                default:
                    return false;
            }
        }

        private boolean isNever(int node) {
            return node != NONE && at(never, node) == 1;
        }

        private boolean neverPastTry(int node) {
            boolean isNever = isNever(at(bs, node));
            int next = at(cs, node);
            for (int left = MAX_NODES; next >= 0 && left > 0; left--) {
                isNever = isNever && isNever(next);
                next = at(cs, next);
            }
            return isNever;
        }

        // ---- what is asked of it

        int countCatches(int kind) {
            int count = 0;
            for (int node = 0; node < nodes; node++) {
                if (at(sorts, node) == CATCH && at(as, node) == kind && at(in, node) != NONE) {
                    count++;
                }
            }
            return count;
        }

        int countInNone() {
            int count = 0;
            for (int node = 0; node < nodes; node++) {
                if (at(in, node) == NONE) {
                    count++;
                }
            }
            return count;
        }

        int catchOf(int node, int kind) {
            if (at(in, node) == NONE) {
                return NONE;
            }
            int inner = node;
            for (int left = MAX_NODES; left > 0; left--) {
                int outer = at(around, inner);
                if (outer == NONE) {
                    return NONE;
                }
                int found = at(sorts, outer) == TRY && inner == at(bs, outer) ? firstCatch(outer, kind) : NONE;
                if (found != NONE) {
                    return found;
                }
                inner = outer;
            }
            return NONE;
        }

        private int firstCatch(int tried, int kind) {
            int next = at(cs, tried);
            for (int left = MAX_NODES; next >= 0 && left > 0; left--) {
                if (isAtOrBelow(kind, at(as, next))) {
                    return next;
                }
                next = at(cs, next);
            }
            return NONE;
        }
    }

    // ---- section 3

    private static final class Faults {
        static final int SHADOWED = 1;
        static final int IDLE = 2;
        static final int UNTOLD = 3;
        static final int NO_LOOP = 4;
        static final int NO_CATCH = 5;
        static final int UNREACHED = 7;
        static final int TOO_LONG = 8;
        static final int NO_BODY = 10;

        private static final int WIDTH = 4;
        /** One a NODE, one a CLASS and PROCEDURE, one more a PROCEDURE. */
        private static final int MAX_FAULTS = MAX_NODES + MAX_PROCEDURES * (MAX_KINDS + 1);

        private final Program program;
        private final int[] cells = new int[WIDTH * MAX_FAULTS];
        /** NODES that are still to be looked at; each is on it once. */
        private final int[] stack = new int[MAX_NODES];
        private int top;
        int count;

        Faults(Program program) {
            this.program = program;
        }

        int read(int k, int what) {
            return at(cells, k * WIDTH + what);
        }

        void add(int which, int procedure, int node, int more) {
            if (count >= MAX_FAULTS) {
                return;
            }
            put(cells, count * WIDTH, which);
            put(cells, count * WIDTH + 1, procedure);
            put(cells, count * WIDTH + 2, node);
            put(cells, count * WIDTH + 3, more);
            count++;
        }

        /** All but TOO_LONG, which only the compiler can tell. */
        void find() {
            count = 0;
            for (int p = 0; p < program.procedures; p++) {
                int body = at(program.bodies, p);
                if (body == NONE) {
                    add(NO_BODY, p, NONE, NONE);
                } else {
                    findInNodes(p, body);
                    findUntold(p);
                }
            }
        }

        private void findInNodes(int procedure, int body) {
            top = 0;
            push(body);
            for (int left = MAX_NODES; top > 0 && left > 0; left--) {
                top--;
                int node = at(stack, top);
                int which = faultOf(node);
                if (which != 0) {
                    add(which, procedure, node, NONE);
                }
                push(program.partC(node));
                push(program.partB(node));
                push(program.partA(node));
            }
        }

        private void push(int node) {
            if (node != NONE && top < stack.length) {
                put(stack, top, node);
                top++;
            }
        }

        private int faultOf(int node) {
            switch (at(program.sorts, node)) {
                case Program.CATCH:
                    return faultOfCatch(node);
                case Program.BREAK:
                    return at(program.loopAround, node) == NONE ? NO_LOOP : 0;
                case Program.AGAIN:
                case Program.WRAP:
                case Program.KEEP:
                case Program.LINK:
                    return at(program.catchAround, node) == NONE ? NO_CATCH : 0;
                case Program.SEQ:
                    return at(program.never, at(program.bs, node)) == 1 ? UNREACHED : 0;
                default:
                    return 0;
            }
        }

        private int faultOfCatch(int node) {
            int kind = at(program.as, node);
            int outer = at(program.around, node);
            for (int left = MAX_NODES; at(program.sorts, outer) == Program.CATCH && left > 0; left--) {
                if (program.isAtOrBelow(kind, at(program.as, outer))) {
                    return SHADOWED;
                }
                outer = at(program.around, outer);
            }
            int canBeThrown = at(program.can, at(program.bs, outer));
            boolean isIdle = (canBeThrown & at(program.below, kind)) == 0;
            return isIdle && at(program.checked, kind) == 1 ? IDLE : 0;
        }

        private void findUntold(int procedure) {
            int open = program.canOfBody(procedure);
            int tells = at(program.tells, procedure);
            for (int kind = 0; kind < program.kinds; kind++) {
                if ((tells >> kind & 1) == 1) {
                    open &= ~at(program.below, kind);
                }
            }
            for (int kind = 0; kind < program.kinds; kind++) {
                if ((open >> kind & 1) == 1 && at(program.checked, kind) == 1) {
                    add(UNTOLD, procedure, NONE, kind);
                }
            }
        }
    }

    // ---- section 5: code, tables, and what lays them

    /** The CODE of one PROCEDURE. */
    private static final class Code {
        static final int SET = 1;
        static final int ADD = 2;
        static final int DIV = 3;
        static final int PRINT = 4;
        static final int UNLESS = 5;
        static final int SKIP = 6;
        static final int HOLD = 7;
        static final int GIVE = 8;
        static final int CALL = 9;
        static final int THROW = 10;
        static final int CAUGHT = 11;
        static final int AGAIN = 12;
        static final int WRAP = 13;
        static final int KEEP = 14;
        static final int LINK = 15;
        static final int THROWN = 16;
        static final int CLOSE = 17;
        static final int OPEN = 18;
        static final int SUPPRESS = 19;
        static final int TURN = 20;

        /** Each NODE as it is laid ends in an instruction of its own, or is a SEQ of two others. */
        private static final int MAX_BEGINS = 2 * MAX_CODE + MAX_NODES;

        int length;
        boolean isTooLong;
        final int[] ops = new int[MAX_CODE];
        final int[] xs = new int[MAX_CODE];
        final int[] ys = new int[MAX_CODE];
        final int[] zs = new int[MAX_CODE];
        /** The NODE that an EXCEPTION out of each instruction has in its TRACE. */
        final int[] nodes = new int[MAX_CODE];
        /** Of each instruction, where the NODES that begin with it stand in begins, outer ones first; and how many. */
        final int[] firstBegins = new int[MAX_CODE];
        final int[] manyBegins = new int[MAX_CODE];
        final int[] begins = new int[MAX_BEGINS];
        private int allBegins;
        int firstRow;
        int rows;

        void clear() {
            length = 0;
            isTooLong = false;
            allBegins = 0;
            rows = 0;
            Arrays.fill(manyBegins, 0);
        }

        /** The next instruction is the first one of the NODE. */
        void begin(int node) {
            if (at(manyBegins, length) == 0) {
                put(firstBegins, length, allBegins);
            }
            increment(manyBegins, length);
            put(begins, allBegins, node);
            allBegins++;
        }

        void add(int op, int x, int y, int z, int node) {
            if (length >= MAX_CODE) {
                isTooLong = true;
                return;
            }
            put(ops, length, op);
            put(xs, length, x);
            put(ys, length, y);
            put(zs, length, z);
            put(nodes, length, node);
            length++;
        }

        int read(int k, int what) {
            switch (what) {
                case 0:
                    return at(ops, k);
                case 1:
                    return at(xs, k);
                case 2:
                    return at(ys, k);
                case 3:
                    return at(zs, k);
                default:
                    return at(manyBegins, k);
            }
        }

        static boolean mayThrow(int op) {
            switch (op) {
                case DIV:
                case CALL:
                case THROW:
                case AGAIN:
                case WRAP:
                case LINK:
                case THROWN:
                case CLOSE:
                case OPEN:
                case SUPPRESS:
                    return true;
                default:
                    return false;
            }
        }
    }

    /** The ROWS of all PROCEDURES, one behind the other. */
    private static final class Table {
        private static final int WIDTH = 4;
        /** A CODE has room for at most 50 CAUGHTS with 75 pieces that all of these see. */
        private static final int MAX_ROWS = 32768;

        private int[] cells = new int[WIDTH * 128];
        int count;

        void add(int from, int to, int place, int kind) {
            if (count >= MAX_ROWS) {
                return;
            }
            if ((count + 1) * WIDTH > cells.length) {
                cells = Arrays.copyOf(cells, cells.length * 2);
            }
            put(cells, count * WIDTH, from);
            put(cells, count * WIDTH + 1, to);
            put(cells, count * WIDTH + 2, place);
            put(cells, count * WIDTH + 3, kind);
            count++;
        }

        int read(int row, int what) {
            return at(cells, row * WIDTH + what);
        }
    }

    /** What is around a NODE as it is laid. */
    private static final class Place {
        /** The innermost TRY or USING whose ROWS see it. */
        int guard;
        /** d: how many CAUGHTS it is within. */
        int caughts;
        /** h: how many FINALLYS it is within. */
        int finallys;
        /** The d of the CATCH around it. */
        int catchCaught;
        int loopLabel;
        /** The guard of what the LOOP around it stands in. */
        int loopGuard;

        void copy(Place other) {
            guard = other.guard;
            caughts = other.caughts;
            finallys = other.finallys;
            catchCaught = other.catchCaught;
            loopLabel = other.loopLabel;
            loopGuard = other.loopGuard;
        }
    }

    /**
     * Lays the CODE and ROWS of PROCEDURES without FAULTS. A GAP is not laid down as such: each instruction knows
     * its innermost guard, and a WAY OUT is laid with the guards around what it leaves.
     */
    private static final class Compiler {
        private final Program program;
        private final Code[] codes;
        private final Table table;
        /** One for each NODE that is being laid, from outside inwards; no NODE is laid within itself. */
        private final Place[] places = new Place[MAX_NODES + 1];

        // a guard: a TRY or USING as it is laid; those around it have smaller numbers
        private final int[] guardNodes = new int[MAX_CODE + MAX_NODES];
        private final int[] guardOuters = new int[MAX_CODE + MAX_NODES];
        private final int[] guardDepths = new int[MAX_CODE + MAX_NODES];
        private int guards;

        private final int[] guardOf = new int[MAX_CODE];
        /** The label that an instruction goes to, as long as its place is not known. */
        private final int[] labels = new int[MAX_CODE];
        private int lastLabel;

        // of each CATCH of a TRY that is being laid its CAUGHT, and the end of its b
        private final int[] catchFrom = new int[MAX_NODES];
        private final int[] catchTo = new int[MAX_NODES];

        private Code code;
        private boolean isPruned;

        Compiler(Program program, Code[] codes, Table table) {
            this.program = program;
            this.codes = codes;
            this.table = table;
            code = codes[MAIN];
            for (int k = 0; k < places.length; k++) {
                places[k] = new Place();
            }
        }

        /** Returns whether its CODE is not too long. */
        boolean layProcedure(int procedure, boolean isPruned) {
            this.isPruned = isPruned;
            code = codeAt(codes, procedure);
            code.clear();
            code.firstRow = table.count;
            guards = 0;
            lastLabel = 0;
            Place outermost = placeAt(0);
            outermost.guard = NONE;
            outermost.caughts = 0;
            outermost.finallys = 0;
            outermost.catchCaught = NONE;
            outermost.loopLabel = 0;
            outermost.loopGuard = NONE;
            lay(at(program.bodies, procedure), 0);
            emit(Code.HOLD, 0, 0, 0, NONE, NONE);
            emit(Code.GIVE, 0, 0, 0, NONE, NONE);
            code.rows = table.count - code.firstRow;
            return !code.isTooLong;
        }

        /** Lays a NODE whose place is the one of this depth, and leaves that as it is. */
        private void lay(int node, int depth) {
            if (depth < 0 || depth + 1 >= places.length) {
                code.isTooLong = true;
            }
            if (code.isTooLong) {
                return;
            }
            code.begin(node);
            switch (at(program.sorts, node)) {
                case Program.SEQ:
                    inner(depth);
                    lay(at(program.bs, node), depth + 1);
                    lay(at(program.cs, node), depth + 1);
                    break;
                case Program.IF:
                    layIf(node, depth);
                    break;
                case Program.LOOP:
                    layLoop(node, depth);
                    break;
                case Program.BREAK:
                    layBreak(node, depth);
                    break;
                case Program.RETURN:
                    layReturn(node, depth);
                    break;
                case Program.TRY:
                    layTry(node, depth);
                    break;
                case Program.USING:
                    layUsing(node, depth);
                    break;
                default:
                    laySingle(node, placeAt(depth));
            }
        }

        private void laySingle(int node, Place here) {
            int guard = here.guard;
            int caught = here.catchCaught;
            int a = at(program.as, node);
            int b = at(program.bs, node);
            switch (at(program.sorts, node)) {
                case Program.SET:
                    emit(Code.SET, a, b, 0, node, guard);
                    break;
                case Program.ADD:
                    emit(Code.ADD, a, b, 0, node, guard);
                    break;
                case Program.DIV:
                    emit(Code.DIV, a, b, 0, node, guard);
                    break;
                case Program.PRINT:
                    emit(Code.PRINT, b, 0, 0, node, guard);
                    break;
                case Program.CALL:
                    emit(Code.CALL, a, b, 0, node, guard);
                    break;
                case Program.THROW:
                    emit(Code.THROW, a, b, 0, node, guard);
                    break;
                case Program.AGAIN:
                    emit(Code.AGAIN, caught, 0, 0, node, guard);
                    break;
                case Program.WRAP:
                    emit(Code.WRAP, a, b, caught, node, guard);
                    break;
                case Program.KEEP:
                    emit(Code.KEEP, a, caught, 0, node, guard);
                    break;
                case Program.LINK:
                    emit(Code.LINK, a, caught, 0, node, guard);
                    break;
                case Program.THROWN:
                    emit(Code.THROWN, a, 0, 0, node, guard);
                    break;
                default:
                    break;
            }
        }

        private void layIf(int node, int depth) {
            int guard = placeAt(depth).guard;
            int other = at(program.cs, node);
            int from = code.length;
            int toOther = newLabel();
            emitTo(toOther, Code.UNLESS, at(program.as, node), node, guard);
            inner(depth);
            lay(at(program.bs, node), depth + 1);
            if (other == NONE) {
                settle(toOther, from);
                return;
            }
            int toEnd = newLabel();
            emitTo(toEnd, Code.SKIP, 0, node, guard);
            settle(toOther, from);
            lay(other, depth + 1);
            settle(toEnd, from);
        }

        private void layLoop(int node, int depth) {
            int guard = placeAt(depth).guard;
            int toEnd = newLabel();
            emit(Code.TURN, 0, 0, 0, node, guard);
            int test = code.length;
            emitTo(toEnd, Code.UNLESS, FIRST_HELD + at(program.as, node), node, guard);
            Place next = inner(depth);
            next.loopLabel = toEnd;
            next.loopGuard = guard;
            lay(at(program.bs, node), depth + 1);
            emit(Code.SKIP, test, 0, 0, node, guard);
            settle(toEnd, test);
        }

        private void layBreak(int node, int depth) {
            Place here = placeAt(depth);
            layWayOut(depth, here.loopGuard);
            emitTo(here.loopLabel, Code.SKIP, 0, node, here.loopGuard);
        }

        private void layReturn(int node, int depth) {
            Place here = placeAt(depth);
            emit(Code.HOLD, at(program.bs, node), here.finallys, 0, node, here.guard);
            layWayOut(depth, NONE);
            emit(Code.GIVE, here.finallys, 0, 0, node, NONE);
        }

        /** The WAY OUT of what stands at this depth, up to a guard. */
        private void layWayOut(int depth, int until) {
            Place here = placeAt(depth);
            int guard = here.guard;
            for (int left = MAX_NODES; guard > until && left > 0; left--) {
                int node = at(guardNodes, guard);
                int outer = at(guardOuters, guard);
                if (at(program.sorts, node) == Program.USING) {
                    layClose(node, outer);
                } else if (at(program.as, node) != NONE) {
                    Place next = inner(at(guardDepths, guard), depth);
                    next.caughts = here.caughts;
                    next.finallys = here.finallys + 1;
                    lay(at(program.as, node), depth + 1);
                }
                guard = outer;
            }
        }

        private void layTry(int node, int depth) {
            Place here = placeAt(depth);
            int guard = newGuard(node, depth);
            int toEnd = newLabel();
            int last = at(program.as, node);
            int from = code.length;
            inner(depth).guard = guard;
            lay(at(program.bs, node), depth + 1);
            int to = code.length;
            layFinally(node, depth, here.caughts);
            emitTo(toEnd, Code.SKIP, 0, node, here.guard);
            int next = at(program.cs, node);
            for (int left = MAX_NODES; next >= 0 && left > 0; left--) {
                layCatch(next, depth, guard);
                layFinally(node, depth, here.caughts);
                next = at(program.cs, next);
                if (next != NONE || last != NONE) {
                    emitTo(toEnd, Code.SKIP, 0, node, here.guard);
                }
            }
            int lastCaught = code.length;
            if (last != NONE) {
                emit(Code.CAUGHT, here.caughts, 0, 0, node, here.guard);
                layFinally(node, depth, here.caughts + 1);
                emit(Code.AGAIN, here.caughts, 0, 0, node, here.guard);
            }
            settle(toEnd, to);
            layCatchRows(node, guard, from, to);
            if (last != NONE) {
                layFinallyRows(node, guard, from, to, lastCaught);
            }
        }

        private void layCatch(int node, int depth, int guard) {
            int caught = placeAt(depth).caughts;
            put(catchFrom, node, code.length);
            code.begin(node);
            emit(Code.CAUGHT, caught, 0, 0, node, guard);
            Place next = inner(depth);
            next.guard = guard;
            next.caughts++;
            next.catchCaught = caught;
            lay(at(program.bs, node), depth + 1);
            put(catchTo, node, code.length);
        }

        /** Lays the FINALLY of a TRY that stands at this depth, if there is one, within so many CAUGHTS. */
        private void layFinally(int node, int depth, int caughts) {
            int last = at(program.as, node);
            if (last != NONE) {
                Place next = inner(depth);
                next.caughts = caughts;
                next.finallys++;
                lay(last, depth + 1);
            }
        }

        private void layUsing(int node, int depth) {
            Place here = placeAt(depth);
            int guard = newGuard(node, depth);
            int opens = at(program.as, node);
            if (opens != NONE) {
                emit(Code.OPEN, opens, 0, 0, node, here.guard);
            }
            int from = code.length;
            inner(depth).guard = guard;
            lay(at(program.bs, node), depth + 1);
            int to = code.length;
            if (at(program.cs, node) == NONE) {
                return;
            }
            int toEnd = newLabel();
            layClose(node, here.guard);
            emitTo(toEnd, Code.SKIP, 0, node, here.guard);
            int caught = code.length;
            emit(Code.CAUGHT, here.caughts, 0, 0, node, here.guard);
            int closing = code.length;
            layClose(node, here.guard);
            emit(Code.AGAIN, here.caughts, 0, 0, node, here.guard);
            int suppressing = code.length;
            emit(Code.SUPPRESS, here.caughts, 0, 0, node, here.guard);
            settle(toEnd, to);
            layRows(from, to, guard, caught, NONE);
            layRows(closing, closing + 1, here.guard, suppressing, NONE);
        }

        private void layClose(int node, int guard) {
            int closes = at(program.cs, node);
            if (closes != NONE) {
                emit(Code.CLOSE, closes, 0, 0, node, guard);
            }
        }

        // ---- rows

        private void layCatchRows(int node, int guard, int from, int to) {
            int next = at(program.cs, node);
            for (int left = MAX_NODES; next >= 0 && left > 0; left--) {
                layRows(from, to, guard, at(catchFrom, next), at(program.as, next));
                next = at(program.cs, next);
            }
        }

        private void layFinallyRows(int node, int guard, int from, int to, int place) {
            layRows(from, to, guard, place, NONE);
            int next = at(program.cs, node);
            for (int left = MAX_NODES; next >= 0 && left > 0; left--) {
                layRows(at(catchFrom, next), at(catchTo, next), guard, place, NONE);
                next = at(program.cs, next);
            }
        }

        /** A ROW for each piece between two places that the guard sees. */
        private void layRows(int from, int to, int guard, int place, int kind) {
            if (code.isTooLong) {
                return;
            }
            int start = from;
            boolean isThere = false;
            for (int k = from; k <= to; k++) {
                if (k < to && isGuarded(k, guard)) {
                    isThere = isThere || !isPruned || Code.mayThrow(at(code.ops, k));
                } else {
                    if (isThere) {
                        table.add(start, k, place, kind);
                    }
                    start = k + 1;
                    isThere = false;
                }
            }
        }

        private boolean isGuarded(int k, int guard) {
            int inner = at(guardOf, k);
            for (int left = MAX_NODES; inner > guard && left > 0; left--) {
                inner = at(guardOuters, inner);
            }
            return inner == guard;
        }

        // ---- places, guards, labels

        private Place placeAt(int depth) {
            return places[depth >= 0 && depth < places.length ? depth : 0];
        }

        private Place inner(int depth) {
            return inner(depth, depth);
        }

        /** Makes what is around the next depth what is around another one. */
        private Place inner(int other, int depth) {
            Place next = placeAt(depth + 1);
            next.copy(placeAt(other));
            return next;
        }

        private int newGuard(int node, int depth) {
            int guard = guards;
            guards++;
            put(guardNodes, guard, node);
            put(guardOuters, guard, placeAt(depth).guard);
            put(guardDepths, guard, depth);
            return guard;
        }

        private int newLabel() {
            lastLabel++;
            return lastLabel;
        }

        private void emit(int op, int x, int y, int z, int node, int guard) {
            put(guardOf, code.length, guard);
            put(labels, code.length, 0);
            code.add(op, x, y, z, node);
        }

        /** The same for an instruction that goes to a label. */
        private void emitTo(int label, int op, int y, int node, int guard) {
            put(guardOf, code.length, guard);
            put(labels, code.length, label);
            code.add(op, 0, y, 0, node);
        }

        /** The label is here; what goes to it stands at from or behind it. */
        private void settle(int label, int from) {
            for (int k = from; k < code.length; k++) {
                if (at(labels, k) == label) {
                    put(code.xs, k, code.length);
                }
            }
        }
    }

    // ---- section 4: the machine

    /** The EXCEPTIONS of a run. */
    private static final class Thrown {
        private static final int KEPT_TRACE = 6;

        int made;
        int suppressions;
        final int[] kinds = new int[MAX_MOST];
        private final int[] causes = new int[MAX_MOST];
        final int[] ofEachKind = new int[MAX_KINDS];

        // of those that are kept
        private final int[] numbers = new int[KEPT];
        final int[] traceLength = new int[KEPT];
        private final int[] traces = new int[KEPT * KEPT_TRACE];
        /** How many are SUPPRESSED beneath each, and the first and last link of their chain. */
        final int[] under = new int[KEPT];
        final int[] firstUnder = new int[KEPT];
        private final int[] lastUnder = new int[KEPT];

        // the links: at most one a USING that was begun
        final int[] whichUnder = new int[MAX_MOST];
        final int[] nextUnder = new int[MAX_MOST];

        void clear() {
            made = 0;
            suppressions = 0;
            Arrays.fill(ofEachKind, 0);
        }

        boolean isKept(int exception) {
            return exception >= 0 && exception < KEPT && exception < made;
        }

        /** Returns its number; a run makes at most one a step. */
        int make(int kind, int number, int cause) {
            int exception = made;
            made++;
            put(kinds, exception, kind);
            put(causes, exception, cause);
            put(numbers, exception, number);
            put(traceLength, exception, 0);
            put(under, exception, 0);
            increment(ofEachKind, kind);
            return exception;
        }

        void addTrace(int exception, int node) {
            int length = at(traceLength, exception);
            if (exception < KEPT && length < KEPT_TRACE) {
                put(traces, exception * KEPT_TRACE + length, node);
                put(traceLength, exception, length + 1);
            }
        }

        int readTrace(int exception, int k) {
            return at(traces, exception * KEPT_TRACE + k);
        }

        void suppress(int beneath, int exception) {
            int link = suppressions;
            suppressions++;
            if (beneath >= KEPT) {
                return;
            }
            put(whichUnder, link, exception);
            if (at(under, beneath) == 0) {
                put(firstUnder, beneath, link);
            } else {
                put(nextUnder, at(lastUnder, beneath), link);
            }
            put(lastUnder, beneath, link);
            increment(under, beneath);
        }

        void setCause(int exception, int cause) {
            put(causes, exception, cause);
        }

        /** Whether it is this one, or the CAUSE of it, or of its CAUSE, and so on. */
        boolean isBehind(int exception, int effect) {
            int next = effect;
            for (int left = MAX_MOST; next != NONE && left > 0; left--) {
                if (next == exception) {
                    return true;
                }
                next = at(causes, next);
            }
            return false;
        }

        int read(int exception, int what) {
            switch (what) {
                case 0:
                    return at(kinds, exception);
                case 1:
                    return at(numbers, exception);
                case 2:
                    return at(causes, exception);
                case 3:
                    return at(under, exception);
                default:
                    return at(traceLength, exception);
            }
        }
    }

    /** A PROCEDURE that is run. */
    private static final class Frame {
        int procedure;
        int place;
        /** The VARIABLE that becomes what it gives, or NONE. */
        int variable;
        /** The NODE that CALLED it. */
        int node;
        final int[] caught = new int[MAX_NODES];
        final int[] held = new int[MAX_NODES];
    }

    private static final class Machine {
        // places in told, as ofRun() numbers them
        static final int RESULT = 0;
        static final int GAVE = 1;
        static final int ENDED = 2;
        static final int STEPS = 3;
        static final int PRINTS = 4;
        static final int CALLS = 5;
        static final int MADE = 6;
        static final int DEEPEST = 7;
        static final int SUPPRESSIONS = 8;

        private static final int CAME_TO_END = 0;
        private static final int THREW = 1;
        private static final int CUT_OFF = 2;
        /** Far above what 3000 steps need: between two of them no instruction comes twice. */
        private static final int MAX_TURNS = 1000000;
        private static final int PRINT_WIDTH = 3;

        private final Program program;
        private final Code[] codes;
        private final Table table;
        final Thrown thrown = new Thrown();
        final int[] told = new int[SUPPRESSIONS + 1];
        final int[] variables = new int[VARIABLES];
        final int[] slots = new int[SLOTS];
        final int[] begun = new int[MAX_NODES];
        final int[] called = new int[MAX_PROCEDURES];
        private final int[] prints = new int[KEPT * PRINT_WIDTH];
        long printSum;

        private final Frame[] frames = new Frame[MAX_DEEP];
        private int depth;
        private int most;
        private int deep;
        private boolean isRunning;
        /** The EXCEPTION that was thrown last, and whether it has still to find who catches it. */
        private int flying;
        private boolean isFlying;

        Machine(Program program, Code[] codes, Table table) {
            this.program = program;
            this.codes = codes;
            this.table = table;
            for (int k = 0; k < frames.length; k++) {
                frames[k] = new Frame();
            }
            for (int slot = 0; slot < SLOTS; slot++) {
                slots[slot] = NONE;
            }
        }

        int keptPrints() {
            int count = at(told, PRINTS);
            return count < KEPT ? count : KEPT;
        }

        int readPrint(int k, int what) {
            return at(prints, k * PRINT_WIDTH + what);
        }

        void perform(int mostSteps, int deepest) {
            clear();
            most = mostSteps;
            deep = deepest;
            enter(MAIN, NONE, NONE);
            for (int turn = 0; turn < MAX_TURNS && isRunning; turn++) {
                performNext();
                if (isFlying) {
                    unwind();
                }
            }
            put(told, MADE, thrown.made);
            put(told, SUPPRESSIONS, thrown.suppressions);
        }

        private void clear() {
            Arrays.fill(told, 0);
            put(told, RESULT, CUT_OFF);
            put(told, ENDED, NONE);
            Arrays.fill(variables, 0);
            Arrays.fill(slots, NONE);
            Arrays.fill(begun, 0);
            Arrays.fill(called, 0);
            thrown.clear();
            printSum = 0;
            depth = 0;
            isRunning = true;
            isFlying = false;
        }

        /** One instruction. */
        private void performNext() {
            if (depth < 1 || depth > frames.length) {
                isRunning = false;
                return;
            }
            Frame frame = frames[depth - 1];
            Code code = codeAt(codes, frame.procedure);
            int place = frame.place;
            if (place < 0 || place >= code.length || !begin(code, place)) {
                isRunning = false;
            } else if (Code.mayThrow(at(code.ops, place))) {
                performRisky(code, place, frame);
            } else {
                performSafe(code, place, frame);
            }
        }

        /** Begins the NODES that begin here; returns false if the run is cut off ahead of one of them. */
        private boolean begin(Code code, int place) {
            int first = at(code.firstBegins, place);
            int many = at(code.manyBegins, place);
            for (int k = 0; k < many; k++) {
                if (at(told, STEPS) >= most) {
                    return false;
                }
                increment(told, STEPS);
                increment(begun, at(code.begins, first + k));
            }
            return true;
        }

        private void performSafe(Code code, int place, Frame frame) {
            int x = at(code.xs, place);
            int y = at(code.ys, place);
            frame.place = place + 1;
            switch (at(code.ops, place)) {
                case Code.SET:
                    put(variables, x, valueOf(y));
                    break;
                case Code.ADD:
                    put(variables, x, at(variables, x) + valueOf(y));
                    break;
                case Code.PRINT:
                    print(valueOf(x), at(code.nodes, place));
                    break;
                case Code.UNLESS:
                    frame.place = valueOf(y) > 0 ? place + 1 : x;
                    break;
                case Code.SKIP:
                    frame.place = x;
                    break;
                case Code.HOLD:
                    put(frame.held, y, valueOf(x));
                    break;
                case Code.GIVE:
                    leave(frame, at(frame.held, x));
                    break;
                case Code.CAUGHT:
                    put(frame.caught, x, flying);
                    break;
                case Code.KEEP:
                    put(slots, x, at(frame.caught, y));
                    break;
                default:
                    break;
            }
        }

        /** The place stays at an instruction that throws, or that CALLS, until that is through. */
        private void performRisky(Code code, int place, Frame frame) {
            int x = at(code.xs, place);
            int y = at(code.ys, place);
            int node = at(code.nodes, place);
            switch (at(code.ops, place)) {
                case Code.DIV:
                    divide(x, valueOf(y), frame, node);
                    break;
                case Code.CALL:
                    enter(y, x, node);
                    break;
                case Code.OPEN:
                case Code.CLOSE:
                    enter(x, NONE, node);
                    break;
                case Code.THROW:
                    raise(x, valueOf(y), NONE, node);
                    break;
                case Code.WRAP:
                    raise(x, valueOf(y), at(frame.caught, at(code.zs, place)), node);
                    break;
                case Code.AGAIN:
                    fly(at(frame.caught, x));
                    break;
                case Code.SUPPRESS:
                    suppress(at(frame.caught, x));
                    break;
                case Code.LINK:
                    link(at(slots, x), at(frame.caught, y), frame, node);
                    break;
                default:
                    throwHeld(at(slots, x), node);
            }
        }

        private int valueOf(int operand) {
            return operand >= FIRST_HELD ? at(variables, operand - FIRST_HELD) : operand;
        }

        private void print(int number, int node) {
            int k = at(told, PRINTS);
            if (k < KEPT) {
                put(prints, k * PRINT_WIDTH, number);
                put(prints, k * PRINT_WIDTH + 1, at(told, STEPS));
                put(prints, k * PRINT_WIDTH + 2, node);
            }
            printSum += number;
            increment(told, PRINTS);
        }

        private void divide(int variable, int divisor, Frame frame, int node) {
            if (divisor == 0) {
                raise(ZERO, 0, NONE, node);
                return;
            }
            put(variables, variable, at(variables, variable) / divisor);
            frame.place++;
        }

        private void link(int cause, int caught, Frame frame, int node) {
            if (cause != NONE && thrown.isBehind(caught, cause)) {
                raise(RING, 0, NONE, node);
                return;
            }
            if (cause != NONE) {
                thrown.setCause(caught, cause);
            }
            frame.place++;
        }

        private void throwHeld(int exception, int node) {
            if (exception == NONE) {
                raise(EMPTY, 0, NONE, node);
            } else {
                fly(exception);
            }
        }

        /** What flew here out of a CLOSE gives way to what was caught ahead of it. */
        private void suppress(int caught) {
            if (flying != caught) {
                thrown.suppress(caught, flying);
            }
            fly(caught);
        }

        private void enter(int procedure, int variable, int node) {
            if (depth < 0 || depth >= deep || depth >= frames.length) {
                raise(OVERFLOW, 0, NONE, node);
                return;
            }
            Frame frame = frames[depth];
            frame.procedure = procedure;
            frame.place = 0;
            frame.variable = variable;
            frame.node = node;
            depth++;
            increment(told, CALLS);
            increment(called, procedure);
            if (depth > at(told, DEEPEST)) {
                put(told, DEEPEST, depth);
            }
        }

        private void leave(Frame frame, int value) {
            depth--;
            if (depth < 1 || depth > frames.length) {
                isRunning = false;
                put(told, RESULT, CAME_TO_END);
                put(told, GAVE, value);
                return;
            }
            put(variables, frame.variable, value);
            frames[depth - 1].place++;
        }

        private void raise(int kind, int number, int cause, int node) {
            int exception = thrown.make(kind, number, cause);
            thrown.addTrace(exception, node);
            for (int k = depth - 1; k > 0 && k < frames.length; k--) {
                thrown.addTrace(exception, frames[k].node);
            }
            fly(exception);
        }

        private void fly(int exception) {
            flying = exception;
            isFlying = true;
        }

        private void unwind() {
            isFlying = false;
            while (depth > 0 && depth <= frames.length) {
                Frame frame = frames[depth - 1];
                int place = placeFor(codeAt(codes, frame.procedure), frame.place);
                if (place != NONE) {
                    frame.place = place;
                    return;
                }
                depth--;
            }
            isRunning = false;
            put(told, RESULT, THREW);
            put(told, ENDED, flying);
        }

        /** Where the first ROW that fits sends what is flying. */
        private int placeFor(Code code, int place) {
            int thrownKind = at(thrown.kinds, flying);
            for (int k = code.firstRow; k < code.firstRow + code.rows; k++) {
                int kind = table.read(k, 3);
                boolean isIn = table.read(k, 0) <= place && place < table.read(k, 1);
                if (isIn && (kind == NONE || program.isAtOrBelow(thrownKind, kind))) {
                    return table.read(k, 2);
                }
            }
            return NONE;
        }
    }
}
