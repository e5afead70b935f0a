/** Counts and prints the answers that are not the ones that are due. */
final class Due {
    interface Call {
        Object get();
    }

    private static int wrong = 0;
    private static int asked = 0;

    private Due() {
    }

    static void same(String what, long got, long want) {
        asked++;
        if (got != want) {
            wrong++;
            System.out.println(what + " answered " + got + ", due is " + want);
        }
    }

    static void same(String what, boolean got, boolean want) {
        same(what, got ? 1L : 0L, want ? 1L : 0L);
    }

    static void outOfBounds(String what, Call call) {
        thrown(what, call, "IndexOutOfBoundsException");
    }

    static void illegalArgument(String what, Call call) {
        thrown(what, call, "IllegalArgumentException");
    }

    static void illegalState(String what, Call call) {
        thrown(what, call, "IllegalStateException");
    }

    // The very class is asked for: the machine's own exceptions are classes below these.
    private static void thrown(String what, Call call, String want) {
        asked++;
        String got = "nothing";
        try {
            call.get();
        } catch (RuntimeException e) {
            got = e.getClass().getSimpleName();
        }
        if (!got.equals(want)) {
            wrong++;
            System.out.println(what + " threw " + got + ", due is " + want);
        }
    }

    static void end() {
        System.out.println(wrong == 0 ? asked + " answers are as due" : wrong + " of " + asked + " answers are wrong");
        if (wrong != 0) {
            System.exit(1);
        }
    }
}
