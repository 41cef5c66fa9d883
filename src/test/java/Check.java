/** What the tests share: it prints each answer that is not the due one, and counts these. */
final class Check {
    interface Call {
        long answer();
    }

    private static int wrong = 0;
    private static int checks = 0;
    private static String about = "";

    private Check() {
    }

    /** Names what the next checks are about. */
    static void about(String text) {
        about = text;
    }

    static void same(String call, long got, long due) {
        checks++;
        if (got != due) {
            tell(call + " answered " + got + ", due is " + due);
        }
    }

    static void same(String call, boolean got, boolean due) {
        same(call, got ? 1 : 0, due ? 1 : 0);
    }

    static void same(String call, double got, double due) {
        checks++;
        if (got != due) {
            tell(call + " answered " + got + ", due is " + due);
        }
    }

    static void outOfBounds(String call, Call made) {
        fails(call, made, IndexOutOfBoundsException.class);
    }

    static void illegalArgument(String call, Call made) {
        fails(call, made, IllegalArgumentException.class);
    }

    static void illegalState(String call, Call made) {
        fails(call, made, IllegalStateException.class);
    }

    /** Exactly this exception: one that the machine throws is of a class below it. */
    static void fails(String call, Call made, Class<?> due) {
        checks++;
        try {
            long got = made.answer();
            tell(call + " answered " + got + ", due is " + due.getSimpleName());
        } catch (RuntimeException e) {
            if (e.getClass() != due) {
                tell(call + " threw " + e + ", due is " + due.getSimpleName());
            }
        }
    }

    /** One more that is as due. */
    static void count() {
        checks++;
    }

    static void tell(String text) {
        wrong++;
        if (wrong <= 50) {
            System.out.println(about + ": " + text);
        }
    }

    static int wrong() {
        return wrong;
    }

    static void end() {
        System.out.println(checks + " checks, " + wrong + " wrong");
        if (wrong > 0) {
            System.exit(1);
        }
    }
}
