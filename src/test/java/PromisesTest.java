/** The promises of the document, by their numbers, each with what is ordinary, its edges, and what is wrong. */
public final class PromisesTest {
    private static final int NONE = -1;

    private PromisesTest() {
    }

    public static void main(String[] args) {
        newObject();
        Check.end();
    }

    private static void newObject() {
        Check.about("promise 1");
        UnwindTower x = new UnwindTower();
        int[] many = {5, 1, 0, 0, 1, 0, 0, 800, 10, 0};
        for (int what = 0; what <= 9; what++) {
            Check.same("many(" + what + ")", x.many(what), many[what]);
        }
        Check.same("ofProcedure(0, 0)", x.ofProcedure(0, 0), 0);
        Check.same("ofProcedure(0, 1)", x.ofProcedure(0, 1), NONE);
    }
}
