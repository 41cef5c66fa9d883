/** Programs to which calls are made that are refused. */
final class Samples {
    private Samples() {
    }

    /**
     * Of 7 CLASSES, 4 PROCEDURES and 13 NODES; MAIN is SET 0 7, then TRY USING CALL, CATCH KEEP and WRAP, FINALLY PRINT.
     * It ran: the EXCEPTION 1 was SUPPRESSED beneath 0, which was the CAUSE of 2, which ended it.
     */
    static Tower ran() {
        Tower x = new Tower();
        x.kind(Tests.ROOT, true);
        x.kind(5, false);
        int throwing = Tests.throwing(x, 6, 4);
        int opening = Tests.printing(x, 1);
        int closing = x.procedure(0);
        x.body(closing, x.node(Tests.DIV, 0, 0, 0));
        int used = x.node(Tests.USING, opening, x.node(Tests.CALL, 0, throwing, 0), closing);
        int keep = x.node(Tests.KEEP, 1, 0, 0);
        int caught = x.node(Tests.CATCH, 5, x.node(Tests.SEQ, 0, keep, x.node(Tests.WRAP, Tests.RING, 9, 0)), Tests.NONE);
        int tried = x.node(Tests.TRY, Tests.print(x, 100), used, caught);
        x.body(0, x.node(Tests.SEQ, 0, x.node(Tests.SET, 0, 7, 0), tried));
        x.run();
        return x;
    }

    /** The same, with a PROCEDURE without a BODY behind its run. */
    static Tower faulty() {
        Tower x = ran();
        x.procedure(1);
        return x;
    }

    /** Each CLASS below the one before. */
    static Tower withKinds(int kinds) {
        Tower x = new Tower();
        for (int kind = 5; kind < kinds; kind++) {
            x.kind(kind - 1, kind % 2 == 0);
        }
        return x;
    }

    static Tower withProcedures(int procedures) {
        Tower x = new Tower();
        for (int procedure = 1; procedure < procedures; procedure++) {
            x.procedure(procedure);
        }
        return x;
    }
}
