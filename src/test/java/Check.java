import java.util.Arrays;

/** Counts and prints the answers that are not as due. */
final class Check {
    private final String test;
    private int wrong;
    private int asked;

    Check(String test) {
        this.test = test;
    }

    void due(String what, long got, long want) {
        asked++;
        if (got != want) {
            wrong++;
            System.out.println(test + ": " + what + " answered " + got + ", due is " + want);
        }
    }

    void yes(String what, boolean got) {
        due(what, got ? 1 : 0, 1);
    }

    void same(String what, byte[] got, byte[] want) {
        yes(what, Arrays.equals(got, want));
    }

    /** Tells the first place at which two rows differ. */
    void same(String what, int[] got, int[] want) {
        int at = Arrays.mismatch(got, want);
        yes(at < 0 ? what : what + " (at " + at + ")", at < 0);
    }

    /** A call that is to throw just this exception. */
    void thrown(String what, Class<? extends RuntimeException> want, Runnable call) {
        asked++;
        Class<?> got = null;
        try {
            call.run();
        } catch (RuntimeException e) {
            got = e.getClass();
        }
        if (got != want) {
            wrong++;
            System.out.println(test + ": " + what + " threw " + got + ", due is " + want);
        }
    }

    void range(String what, Runnable call) {
        thrown(what, IndexOutOfBoundsException.class, call);
    }

    void state(String what, Runnable call) {
        thrown(what, IllegalStateException.class, call);
    }

    void argument(String what, Runnable call) {
        thrown(what, IllegalArgumentException.class, call);
    }

    void end() {
        System.out.println(test + ": " + asked + " answers, " + wrong + " wrong");
        if (wrong != 0) {
            System.exit(1);
        }
    }
}
