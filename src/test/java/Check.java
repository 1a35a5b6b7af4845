/** Counts answers that are not due, for the tests' main methods. */
final class Check {
    interface Call {
        void run();
    }

    interface Answer {
        Object get();
    }

    static final Class<IndexOutOfBoundsException> INDEX = IndexOutOfBoundsException.class;
    static final Class<IllegalArgumentException> ARGUMENT = IllegalArgumentException.class;
    static final Class<IllegalStateException> STATE = IllegalStateException.class;

    private static int passed;
    private static int failed;

    private Check() {
    }

    static void due(String what, Object got, Object want) {
        if (got.equals(want)) {
            passed++;
        } else {
            failed++;
            System.out.println(what + " answered " + got + ", due is " + want);
        }
    }

    static void yes(String what, boolean got) {
        due(what, got, true);
    }

    static void no(String what, boolean got) {
        due(what, got, false);
    }

    /** The call must throw exactly this exception, and x must answer as before; Twins looks at all of x. */
    static void refused(GhostRooms x, Class<? extends RuntimeException> kind, String what, Call call) {
        String before = Houses.brief(x);
        due(what, thrownBy(call), kind.getSimpleName());
        due(what + ": the state after it", Houses.brief(x), before);
    }

    static void throwsThe(Class<? extends RuntimeException> kind, String what, Call call) {
        due(what, thrownBy(call), kind.getSimpleName());
    }

    /** What a call answers, or the name of what it throws. */
    static Object outcome(Answer answer) {
        try {
            return answer.get();
        } catch (RuntimeException e) {
            return e.getClass().getSimpleName();
        }
    }

    static String thrownBy(Call call) {
        try {
            call.run();
            return "nothing";
        } catch (RuntimeException e) {
            return e.getClass().getSimpleName();
        }
    }

    static void end() {
        System.out.println(passed + " checks passed, " + failed + " checks failed");
        System.exit(failed == 0 && passed > 0 ? 0 : 1);
    }
}
