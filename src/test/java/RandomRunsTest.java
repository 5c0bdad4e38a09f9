import java.util.Arrays;

/**
 * Runs of calls, made by a fixed rule, none of more than 512: each answer and each exception against PlainTown's.
 * Each exception must be thrown by the program's own throw, not by the machine or a list.
 */
public final class RandomRunsTest {
    private static final int RUNS = 240;
    private static final int CALLS = 512;
    private static final int KINDS = 21;
    private static final int DIGEST = 20;
    private static final int[] WILD = {Integer.MIN_VALUE, Integer.MAX_VALUE, -1, 100, 140, -14};
    private static final String[] NAMES = {"build", "dig", "light", "cell", "house", "addEngine", "stoke", "drive",
        "relay", "aim", "takeUp", "engine", "pond", "pass", "count", "foresee", "lasts", "weakest", "advise", "walls",
        "digest"};

    private static long seed;
    private static int columns;
    private static int rows;

    public static void main(String[] args) {
        for (int run = 0; run < RUNS; run++) {
            seed = 1000 + 77L * run;
            columns = 4 + pick(11);
            rows = 3 + pick(8);
            run(run);
        }
        Check.end();
    }

    /** In every second run the digest is asked behind each other call, so that what changed too early is found. */
    private static void run(int run) {
        FireEngines x = new FireEngines();
        PlainTown plain = new PlainTown();
        for (int i = 0; i < CALLS - 1; i++) {
            boolean asksDigest = run % 2 == 0 && i % 2 == 1;
            int[] call = asksDigest ? call(DIGEST) : i < 40 ? townCall() : anyCall();
            if (!same(run, x, plain, call)) {
                return;
            }
        }
        same(run, x, plain, call(DIGEST));
    }

    private static boolean same(int run, FireEngines x, PlainTown plain, int[] call) {
        String due = answerOf(plain, call);
        String got = answerOf(x, call);
        if (!got.equals(due)) {
            Check.fault("run " + run + ": " + NAMES[call[0]] + Arrays.toString(call) + " answered " + got + ", due is "
                + due);
        }
        return got.equals(due);
    }

    private static String answerOf(PlainTown plain, int[] call) {
        try {
            return Long.toString(plain.call(call));
        } catch (IndexOutOfBoundsException | IllegalArgumentException | IllegalStateException e) {
            return e.getClass().getName();
        }
    }

    private static String answerOf(FireEngines x, int[] call) {
        try {
            return Long.toString(make(x, call));
        } catch (RuntimeException e) {
            boolean own = e.getStackTrace()[0].getClassName().startsWith("FireEngines");
            return own ? e.getClass().getName() : "by the machine: " + e;
        }
    }

    private static long make(FireEngines x, int[] c) {
        switch (c[0]) {
            case 0: return x.build(c[1], c[2], c[3], c[4]);
            case 1: return x.dig(c[1], c[2], c[3]);
            case 2: return x.light(c[1], c[2]);
            case 3: return x.cell(c[1], c[2], c[3]);
            case 4: return x.house(c[1], c[2]);
            case 5: return x.addEngine(c[1], c[2], c[3], c[4]);
            case 6: return x.stoke(c[1], c[2]);
            case 7: return x.drive(c[1], c[2], c[3]);
            case 8: return x.relay(c[1], c[2]);
            case 9: return x.aim(c[1], c[2]);
            case 10: return x.takeUp(c[1]) ? 1 : 0;
            case 11: return x.engine(c[1], c[2]);
            case 12: return x.pond(c[1]);
            case 13: return x.pass(c[1]);
            case 14: return x.count(c[1]);
            case 15: return x.foresee(c[1], c[2]);
            case 16: return x.lasts();
            case 17: return x.weakest(c[1]);
            case 18: return x.advise(c[1], c[2]);
            case 19: return Double.doubleToLongBits(x.walls());
            default: return x.digest();
        }
    }

    // ---- the fixed rule

    private static int pick(int below) {
        seed = seed * 6364136223846793005L + 1442695040888963407L;
        return (int) ((seed >>> 33) % below);
    }

    /** A number mostly from least to most, now and then a bit beside it or a wild one. */
    private static int number(int least, int most) {
        int way = pick(60);
        if (way == 0) {
            return WILD[pick(WILD.length)];
        }
        return way == 1 ? least - 2 + pick(most - least + 5) : least + pick(most - least + 1);
    }

    private static int[] call(int... numbers) {
        return Arrays.copyOf(numbers, 5);
    }

    private static int x() {
        return number(0, columns - 1);
    }

    private static int y() {
        return number(0, rows - 1);
    }

    private static int[] townCall() {
        switch (pick(6)) {
            case 0:
                return call(5, x(), y(), number(1, 4), number(1, 20));
            case 1:
                return call(1, x(), y(), pick(2) == 0 ? number(0, 5000) : number(0, 300));
            case 2:
                return call(13, number(1, 2));
            default:
                return call(0, x(), y(), number(1, 9), number(1, 60));
        }
    }

    /** What changes the fire goes slowly, so that there is one for most of the run. */
    private static int[] anyCall() {
        int kind = pick(KINDS + 8);
        switch (kind) {
            case 0:
            case 1:
            case 5:
                return townCall();
            case 2:
                return call(2, number(0, 29), pick(3) == 0 ? number(1, 99) : number(1, 12));
            case 3:
                return call(3, x(), y(), number(0, 3));
            case 4:
                return call(4, number(0, 12), number(0, 6));
            case 6:
                return call(6, number(0, 5), number(1, 100));
            case 7:
                return pick(2) == 0 ? call(7, number(0, 5), x(), y()) : townCall();
            case 11:
                return call(11, number(0, 5), number(0, 9));
            case 13:
            case 21:
                return call(13, pick(60) == 0 ? number(1, 100) : number(1, 3));
            case 14:
                return call(14, number(0, 9));
            case 15:
                return call(15, pick(3) == 0 ? number(1, 100) : number(1, 10), number(0, 2));
            case 18:
                return call(18, number(0, 5), number(1, 50));
            case 16:
            case 19:
            case DIGEST:
                return call(kind);
            case 10:
                return call(pick(3) == 0 ? 10 : 9, number(0, 5), number(0, 12));
            case 8:
            case 22:
            case 23:
                return call(8, number(0, 5), number(0, 5));
            case 12:
            case 17:
                return call(kind, number(0, 5));
            default:
                return call(9, number(0, 5), number(0, 15));
        }
    }
}
