/** Counts what a test found wrong, and ends the test by that. */
final class Check {
    static final Class<IndexOutOfBoundsException> INDEX = IndexOutOfBoundsException.class;
    static final Class<IllegalArgumentException> ARGUMENT = IllegalArgumentException.class;
    static final Class<IllegalStateException> STATE = IllegalStateException.class;

    private int wrong;
    private int made;
    private String promise = "";

    /** Names the promise that the checks from here on are for. */
    void promise(String itsName) {
        promise = itsName;
    }

    void same(String what, long got, long want) {
        made++;
        if (got != want) {
            wrong++;
            System.out.println(promise + ": " + what + " is " + got + ", due is " + want);
        }
    }

    void same(String what, String got, String want) {
        made++;
        if (!got.equals(want)) {
            wrong++;
            System.out.println(promise + ": " + what + " " + got + ", due is " + want);
        }
    }

    /** The very class is due, not one below it: the machine throws its own ones below. */
    void fails(Class<? extends RuntimeException> want, String what, Runnable call) {
        made++;
        Class<?> got = null;
        try {
            call.run();
        } catch (RuntimeException e) {
            got = e.getClass();
        }
        if (got != want) {
            wrong++;
            System.out.println(promise + ": " + what + " threw " + got + ", due is " + want);
        }
    }

    void end() {
        System.out.println(made + " checks, " + wrong + " wrong");
        if (wrong != 0) {
            System.exit(1);
        }
    }
}
