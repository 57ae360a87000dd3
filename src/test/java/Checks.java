/** Counts what holds and what does not, and tells the latter. */
final class Checks {
    private final String test;
    private int held = 0;
    private int broken = 0;

    Checks(String test) {
        this.test = test;
    }

    void equal(String what, Object got, Object want) {
        if (want.equals(got)) {
            held++;
        } else {
            broken++;
            System.out.println(test + ": " + what + " answered " + got + ", due is " + want);
        }
    }

    void isTrue(String what, boolean got) {
        equal(what, got, true);
    }

    /** The class has to be the very one: what the machine itself throws is often a class below it. */
    void thrown(String what, Class<? extends RuntimeException> want, Runnable call) {
        Object got = "nothing";
        try {
            call.run();
        } catch (RuntimeException e) {
            got = kindOf(e);
        }
        equal(what + " throws", got, want);
    }

    /** The exception's class; but the exception itself if the program's own code did not throw it. */
    static Object kindOf(RuntimeException e) {
        StackTraceElement[] trace = e.getStackTrace();
        boolean own = trace.length > 0 && trace[0].getClassName().split("\\$")[0].equals("ClauseShop");
        return own ? e.getClass() : e;
    }

    void argument(String what, Runnable call) {
        thrown(what, IllegalArgumentException.class, call);
    }

    void state(String what, Runnable call) {
        thrown(what, IllegalStateException.class, call);
    }

    void index(String what, Runnable call) {
        thrown(what, IndexOutOfBoundsException.class, call);
    }

    void finish() {
        System.out.println(test + ": " + held + " checks hold, " + broken + " do not");
        if (broken != 0) {
            System.exit(1);
        }
    }
}
