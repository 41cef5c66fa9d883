import java.util.ArrayList;
import java.util.List;

/** Makes programs by a row of numbers that a seed gives, at once in a Tower and in a Model. */
final class Programs {
    private static final int NONE = -1;

    final Tower tower = new Tower();
    final Model model = new Model();
    private final boolean isSound;
    /** How many of a hundred TRYS have a FINALLY, and of a hundred single statements leave by RETURN or BREAK. */
    private final int finallys;
    private final int leaving;
    private long state;

    /** isSound: nothing is put in that would be a FAULT (but CODE that is too long, or a body that is missing). */
    Programs(long seed, boolean isSound) {
        state = seed * 0x9E3779B97F4A7C15L + 1;
        this.isSound = isSound;
        boolean isDense = chance(20);
        finallys = isDense ? 85 : 45;
        leaving = isDense ? 55 : 5;
    }

    int below(int bound) {
        state = state * 6364136223846793005L + 1442695040888963407L;
        return (int) ((state >>> 33) % bound);
    }

    boolean chance(int percent) {
        return below(100) < percent;
    }

    /** Where a statement stands. */
    private record Spot(boolean inLoop, boolean inCatch) {
    }

    int add(int sort, int a, int b, int c) {
        int number = tower.node(sort, a, b, c);
        Check.same("node(" + sort + ", " + a + ", " + b + ", " + c + ")", number, model.nodes.size());
        model.nodes.add(new Model.Node(sort, a, b, c));
        return number;
    }

    void kind(int parent, boolean isChecked) {
        Check.same("kind", tower.kind(parent, isChecked), model.parents.size());
        model.parents.add(parent);
        model.checkedSelf.add(isChecked);
    }

    void procedure(int tells) {
        Check.same("procedure", tower.procedure(tells), model.tells.size());
        model.tells.add(tells);
        model.bodies.add(NONE);
    }

    void body(int procedure, int node) {
        Check.same("body", tower.body(procedure, node), model.bodies.get(procedure));
        model.bodies.set(procedure, node);
    }

    void tell(int procedure, int tells) {
        Check.same("tell", tower.tell(procedure, tells), model.tells.get(procedure));
        model.tells.set(procedure, tells);
    }

    void prune(boolean isOn) {
        Check.same("prune", tower.prune(isOn), model.prune);
        model.prune = isOn;
    }

    int anySet() {
        return chance(50) ? 0 : below(1 << model.parents.size()) & below(1 << model.parents.size());
    }

    void make() {
        int kinds = below(9);
        for (int k = 0; k < kinds; k++) {
            kind(below(model.parents.size()), chance(35));
        }
        int more = below(6);
        for (int p = 0; p < more; p++) {
            procedure(anySet());
        }
        int procedures = model.bodies.size();
        int size = chance(40) ? 90 : 3 + below(25);
        for (int p = procedures - 1; p >= 0; p--) {
            if (isSound || chance(90)) {
                int room = Math.min(size, (85 - model.nodes.size()) / (p + 1));
                body(p, statement(room, new Spot(false, false)));
            }
        }
        if (isSound) {
            tellEnough();
        }
    }

    private void tellEnough() {
        for (int round = 0; round < 20; round++) {
            for (int p = 0; p < model.bodies.size(); p++) {
                int can = model.can(model.bodies.get(p));
                int old = model.tells.get(p);
                if ((can | old) != old) {
                    tell(p, can | old);
                }
            }
        }
    }

    private int operand() {
        return chance(50) ? 100 + below(3) : below(7) - 2;
    }

    private int anyKind() {
        return below(model.parents.size());
    }

    private int anyProcedure() {
        return chance(15) ? 0 : below(model.bodies.size());
    }

    /** A statement of at most so many NODES (at least one). */
    private int statement(int room, Spot spot) {
        if (room < 3) {
            return single(spot);
        }
        int choice = below(100);
        if (choice < 32) {
            return sequence(room, spot);
        }
        if (choice < 42) {
            return choose(room, spot);
        }
        if (choice < 52) {
            return loop(room, spot);
        }
        if (choice < 82) {
            return tried(room, spot);
        }
        if (choice < 94) {
            return using(room, spot);
        }
        return single(spot);
    }

    private int sequence(int room, Spot spot) {
        int first = statement((room - 2) / 2, spot);
        if (isSound && model.neverEnds(first)) {
            first = add(Model.IF, operand(), first, NONE);
        }
        int second = statement(room / 2 - 1, spot);
        return add(Model.SEQ, 0, first, second);
    }

    private int choose(int room, Spot spot) {
        int yes = statement((room - 1) / 2, spot);
        int no = chance(50) ? NONE : statement((room - 1) / 2, spot);
        return add(Model.IF, operand(), yes, no);
    }

    private int loop(int room, Spot spot) {
        int v = below(3);
        if (room < 6 || chance(25)) {
            return add(Model.LOOP, v, statement(room - 1, new Spot(true, spot.inCatch)), 0);
        }
        int start = add(Model.SET, v, 1 + below(3), 0);
        int count = add(Model.ADD, v, -1, 0);
        int rest = statement(room - 5, new Spot(true, spot.inCatch));
        int looped = add(Model.LOOP, v, add(Model.SEQ, 0, count, rest), 0);
        return add(Model.SEQ, 0, start, looped);
    }

    private int tried(int room, Spot spot) {
        int b = statement((room - 1) / 2, spot);
        int left = (room - 1) / 2;
        int last = chance(finallys) ? statement(left / 2, spot) : NONE;
        int next = NONE;
        if (last == NONE || chance(70)) {
            List<Integer> kinds = kindsToCatch(b, left);
            for (int k = kinds.size() - 1; k >= 0; k--) {
                int handled = statement(Math.max(1, left / 2 / kinds.size()), new Spot(spot.inLoop, true));
                next = add(Model.CATCH, kinds.get(k), handled, next);
            }
        }
        return add(Model.TRY, last, b, next);
    }

    private List<Integer> kindsToCatch(int b, int room) {
        List<Integer> kinds = new ArrayList<>();
        int wish = room < 4 ? 1 : 1 + below(3);
        for (int round = 0; round < 12 && kinds.size() < wish; round++) {
            int kind = chance(25) ? 0 : anyKind();
            boolean isFine = true;
            for (int one : kinds) {
                isFine &= !model.atOrBelow(kind, one);
            }
            if (model.isChecked(kind)) {
                boolean isThrown = false;
                for (int one = 0; one < model.parents.size(); one++) {
                    isThrown |= (model.can(b) & 1 << one) != 0 && model.atOrBelow(one, kind);
                }
                isFine &= isThrown;
            }
            if (isFine || !isSound && chance(15)) {
                kinds.add(kind);
            }
        }
        return kinds.isEmpty() ? List.of(0) : kinds;
    }

    private int using(int room, Spot spot) {
        int opens = chance(60) ? anyProcedure() : NONE;
        int closes = opens == NONE || chance(75) ? anyProcedure() : NONE;
        return add(Model.USING, opens, statement(room - 1, spot), closes);
    }

    private int single(Spot spot) {
        if (chance(leaving)) {
            boolean isBreak = spot.inLoop && chance(50);
            return isBreak ? add(Model.BREAK, 0, 0, 0) : add(Model.RETURN, 0, operand(), 0);
        }
        switch (below(14)) {
            case 0:
                return add(Model.SET, below(3), operand(), 0);
            case 1:
                return add(Model.ADD, below(3), operand(), 0);
            case 2:
                return add(Model.DIV, below(3), operand(), 0);
            case 3:
                return add(Model.RETURN, 0, operand(), 0);
            case 4:
            case 5:
                return add(Model.THROW, anyKind(), operand(), 0);
            case 6:
            case 7:
                return add(Model.CALL, below(3), anyProcedure(), 0);
            case 8:
                return add(Model.THROWN, below(4), 0, 0);
            case 9:
                if (spot.inLoop || !isSound) {
                    return add(Model.BREAK, 0, 0, 0);
                }
                break;
            case 10:
            case 11:
            case 12:
                if (spot.inCatch || !isSound) {
                    return ofCatch();
                }
                break;
            default:
                break;
        }
        return add(Model.PRINT, 0, operand(), 0);
    }

    private int ofCatch() {
        switch (below(4)) {
            case 0:
                return add(Model.AGAIN, 0, 0, 0);
            case 1:
                return add(Model.WRAP, anyKind(), operand(), 0);
            case 2:
                return add(Model.KEEP, below(3), 0, 0);
            default:
                return add(Model.LINK, below(3), 0, 0);
        }
    }
}
