/** Counts answers that are not due, and tells them. */
final class Checks {
    interface Call {
        long answer();
    }

    private int wrong;

    void due(String what, long got, long want) {
        if (got != want) {
            wrong++;
            System.out.println(what + " answered " + got + ", due is " + want);
        }
    }

    void due(String what, double got, double want) {
        if (got != want) {
            wrong++;
            System.out.println(what + " answered " + got + ", due is " + want);
        }
    }

    void isTrue(String what, boolean holds) {
        if (!holds) {
            wrong++;
            System.out.println(what + " does not hold");
        }
    }

    /** The call throws exactly this exception, and changes nothing. */
    void refused(FeatherBeds x, String what, Class<? extends RuntimeException> due, Call call) {
        long before = x.digest();
        Class<?> thrown = null;
        try {
            call.answer();
        } catch (RuntimeException e) {
            thrown = e.getClass();
        }
        if (thrown != due) {
            wrong++;
            System.out.println(what + " threw " + thrown + ", due is " + due);
        }
        due(what + ", refused, then digest()", x.digest(), before);
    }

    void noIndex(FeatherBeds x, String what, Call call) {
        refused(x, what, IndexOutOfBoundsException.class, call);
    }

    void noArgument(FeatherBeds x, String what, Call call) {
        refused(x, what, IllegalArgumentException.class, call);
    }

    void noState(FeatherBeds x, String what, Call call) {
        refused(x, what, IllegalStateException.class, call);
    }

    void end() {
        System.out.println(wrong == 0 ? "all answers are as due" : wrong + " answers are not as due");
        if (wrong != 0) {
            System.exit(1);
        }
    }
}
