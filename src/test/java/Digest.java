/** The checksum of promise 27, reckoned by the other calls. */
final class Digest {
    private long d = 58128;

    private Digest() {
    }

    private void add(long v) {
        d = d * 31 + v;
    }

    static long of(Tower x) {
        Digest digest = new Digest();
        digest.addTold(x);
        digest.addRun(x);
        if (x.many(4) == 0) {
            for (int what = 0; what <= 8; what++) {
                digest.add(x.wouldRun(150, 4, what));
            }
        }
        return digest.d;
    }

    private void addTold(Tower x) {
        for (int what = 0; what <= 9; what++) {
            add(x.many(what));
        }
        for (int kind = 0; kind < x.many(0); kind++) {
            for (int what = 0; what <= 4; what++) {
                add(x.ofKind(kind, what));
            }
        }
        for (int p = 0; p < x.many(1); p++) {
            addProcedure(x, p);
        }
        for (int n = 0; n < x.many(2); n++) {
            for (int what = 4; what <= 7; what++) {
                add(x.ofNode(n, what));
            }
            add(x.catcher(n, 0));
            add(x.catcher(n, x.many(0) - 1));
        }
        for (int k = 0; k < x.many(4); k++) {
            for (int what = 0; what <= 3; what++) {
                add(x.fault(k, what));
            }
        }
    }

    private void addProcedure(Tower x, int p) {
        for (int what = 0; what <= 5; what++) {
            add(x.ofProcedure(p, what));
        }
        for (int k = 0; k < x.ofProcedure(p, 3); k++) {
            for (int what = 0; what <= 4; what++) {
                add(x.code(p, k, what));
            }
        }
        for (int k = 0; k < x.ofProcedure(p, 4); k++) {
            for (int what = 0; what <= 3; what++) {
                add(x.row(p, k, what));
            }
        }
    }

    private void addRun(Tower x) {
        for (int what = 0; what <= 9; what++) {
            add(x.ofRun(what));
        }
        for (int k = 0; k < Math.min(40, x.ofRun(4)); k++) {
            for (int what = 0; what <= 2; what++) {
                add(x.printed(k, what));
            }
        }
        for (int e = 0; e < Math.min(40, x.ofRun(6)); e++) {
            for (int what = 0; what <= 4; what++) {
                add(x.exception(e, what));
            }
            for (int k = 0; k < x.exception(e, 3); k++) {
                add(x.suppressed(e, k));
            }
            for (int k = 0; k < x.exception(e, 4); k++) {
                add(x.trace(e, k));
            }
        }
        for (int which = 0; which <= 13; which++) {
            add(x.held(which));
        }
    }
}
