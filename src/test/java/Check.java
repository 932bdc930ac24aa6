/** What the tests share: each answer is held against the one that is due, by the promise's number. */
final class Check {
    private static int wrong = 0;
    private static int checks = 0;

    private Check() {
    }

    interface Call {
        void run();
    }

    static void due(int promise, Object got, Object want) {
        checks++;
        if (!want.equals(got)) {
            wrong++;
            System.out.println("promise " + promise + ": answered " + got + ", due is " + want + where());
        }
    }

    /** The call throws an IndexOutOfBoundsException of its own, and changes nothing. */
    static void index(int promise, TimeStore x, Call call) {
        throwsJust(promise, x, call, IndexOutOfBoundsException.class);
    }

    static void argument(int promise, TimeStore x, Call call) {
        throwsJust(promise, x, call, IllegalArgumentException.class);
    }

    static void state(int promise, TimeStore x, Call call) {
        throwsJust(promise, x, call, IllegalStateException.class);
    }

    /** An answer of -9, which changes nothing. */
    static void refused(int promise, TimeStore x, java.util.function.IntSupplier call) {
        long before = x.digest();
        due(promise, call.getAsInt(), -9);
        due(promise, x.digest(), before);
    }

    private static void throwsJust(int promise, TimeStore x, Call call, Class<?> want) {
        long before = x.digest();
        Class<?> got = null;
        try {
            call.run();
        } catch (RuntimeException thrown) {
            got = thrown.getClass();
        }
        checks++;
        // The same class, so that an exception of the machine's own (a class below it) does not pass.
        if (got != want) {
            wrong++;
            System.out.println("promise " + promise + ": threw " + got + ", due is " + want + where());
        }
        due(promise, x.digest(), before);
    }

    private static String where() {
        for (StackTraceElement element : new Throwable().getStackTrace()) {
            if (!element.getClassName().equals("Check")) {
                return " (" + element.getFileName() + ":" + element.getLineNumber() + ")";
            }
        }
        return "";
    }

    static void finish() {
        System.out.println(checks + " checks, " + wrong + " wrong");
        if (wrong != 0) {
            System.exit(1);
        }
    }
}
