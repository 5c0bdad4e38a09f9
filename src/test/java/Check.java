/** What all tests of the project use: they print every answer that is not due, and end with 1 if there was one. */
final class Check {
    private static int wrong = 0;

    interface Call {
        void run();
    }

    private Check() {
    }

    static void same(String call, long got, long due) {
        if (got != due) {
            fault(call + " answered " + got + ", due is " + due);
        }
    }

    static void same(String call, boolean got, boolean due) {
        if (got != due) {
            fault(call + " answered " + got + ", due is " + due);
        }
    }

    static void same(String call, double got, double due) {
        if (got != due) {
            fault(call + " answered " + got + ", due is " + due);
        }
    }

    /** The call must throw an exception of just this class, and leave the town as it is. */
    static void raises(String call, Class<?> due, FireEngines x, Call run) {
        long before = x.digest();
        String got = "nothing";
        try {
            run.run();
        } catch (RuntimeException e) {
            got = e.getClass().getName();
        }
        if (!got.equals(due.getName())) {
            fault(call + " threw " + got + ", due is " + due.getName());
        }
        if (x.digest() != before) {
            fault(call + " changed something");
        }
    }

    static void noIndex(String call, FireEngines x, Call run) {
        raises(call, IndexOutOfBoundsException.class, x, run);
    }

    static void noArgument(String call, FireEngines x, Call run) {
        raises(call, IllegalArgumentException.class, x, run);
    }

    static void noState(String call, FireEngines x, Call run) {
        raises(call, IllegalStateException.class, x, run);
    }

    static void fault(String text) {
        wrong++;
        System.out.println(text);
    }

    static void end() {
        if (wrong > 0) {
            System.out.println(wrong + " faults");
            System.exit(1);
        }
    }
}
