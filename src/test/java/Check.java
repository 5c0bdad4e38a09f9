/** What all tests of the project use: they print every answer that is not due, and end with 1 if there was one. */
final class Check {
    private static int wrong = 0;

    interface Call {
        void run();
    }

    private Check() {
    }

    static void same(String call, long got, long due) {
        if (got != due) {
            fault(call + " answered " + got + ", due is " + due);
        }
    }

    static void same(String call, boolean got, boolean due) {
        if (got != due) {
            fault(call + " answered " + got + ", due is " + due);
        }
    }

    static void same(String call, double got, double due) {
        if (got != due) {
            fault(call + " answered " + got + ", due is " + due);
        }
    }

    /**
     * The call must throw an exception of just this class by a throw statement of its own, not by what a list or
     * the machine throws, and leave the town as it is.
     */
    static void raises(String call, Class<?> due, FireEngines x, Call run) {
        long before = x.digest();
        String got = "nothing";
        try {
            run.run();
        } catch (RuntimeException e) {
            got = e.getClass().getName();
            if (!e.getStackTrace()[0].getClassName().startsWith("FireEngines")) {
                fault(call + " did not throw by itself: " + e);
            }
        }
        if (!got.equals(due.getName())) {
            fault(call + " threw " + got + ", due is " + due.getName());
        }
        if (x.digest() != before) {
            fault(call + " changed something");
        }
    }

    static void noIndex(String call, FireEngines x, Call run) {
        raises(call, IndexOutOfBoundsException.class, x, run);
    }

    static void noArgument(String call, FireEngines x, Call run) {
        raises(call, IllegalArgumentException.class, x, run);
    }

    static void noState(String call, FireEngines x, Call run) {
        raises(call, IllegalStateException.class, x, run);
    }

    /** One of both was refused calls that the other never got: what is on each cell and what comes must be the same. */
    static void twins(String calls, FireEngines x, FireEngines y) {
        same(calls + ": digest", x.digest(), y.digest());
        same(calls + ": walls", x.walls(), y.walls());
        for (int cell = 0; cell < 140; cell++) {
            for (int what = 0; what <= 1; what++) {
                same(calls + ": cell", x.cell(cell % 14, cell / 14, what), y.cell(cell % 14, cell / 14, what));
            }
        }
        for (int minutes : new int[] {1, 7, 100}) {
            same(calls + ": caught fire", x.pass(minutes), y.pass(minutes));
            same(calls + ": digest later", x.digest(), y.digest());
        }
    }

    static void fault(String text) {
        wrong++;
        System.out.println(text);
    }

    static void end() {
        if (wrong > 0) {
            System.out.println(wrong + " faults");
            System.exit(1);
        }
    }
}
