/** Counts the answers that are not as due, and tells the line of the test that asked for each. */
final class Due {
    interface Call {
        Object answer();
    }

    static final Class<IllegalArgumentException> ARGUMENT = IllegalArgumentException.class;
    static final Class<IllegalStateException> STATE = IllegalStateException.class;
    static final Class<IndexOutOfBoundsException> INDEX = IndexOutOfBoundsException.class;

    private int wrong;

    void is(Object want, Object got) {
        if (!want.equals(got)) {
            tell("answered " + got + ", due is " + want);
        }
    }

    void refuses(Class<? extends RuntimeException> kind, Call call) {
        String got;
        try {
            got = "answered " + call.answer();
        } catch (RuntimeException e) {
            // The very class: what the machine throws is of a class below it.
            if (e.getClass() == kind) {
                return;
            }
            got = "threw " + e.getClass().getName();
        }
        tell(got + ", due is " + kind.getName());
    }

    /** How many ENTRIES there are, and of each whether it is KEPT (0), has GONE (1), or is POISONED (2). */
    void states(CachehallDesk x, int... due) {
        is(due.length, x.many(3));
        for (int entry = 0; entry < due.length; entry++) {
            is(due[entry], x.ofEntry(entry, 5));
        }
    }

    void tell(String what) {
        wrong++;
        StackTraceElement asked = null;
        for (StackTraceElement frame : new Throwable().getStackTrace()) {
            if (asked == null && !frame.getClassName().equals("Due")) {
                asked = frame;
            }
        }
        System.out.println(asked + ": " + what);
    }

    void end() {
        if (wrong != 0) {
            System.out.println(wrong + " answers are not as due");
            System.exit(1);
        }
    }
}
