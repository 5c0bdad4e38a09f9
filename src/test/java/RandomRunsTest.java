/**
 * Long runs of calls, made by a fixed rule. Each call throws only what the document names for it, and by a throw
 * of the program's own; what looks ahead answers what comes when the same calls are made again on a new object.
 */
public final class RandomRunsTest {
    private static final int RUNS = 60;
    private static final int CALLS = 400;
    private static final int[] WILD = {Integer.MIN_VALUE, Integer.MAX_VALUE, -1, 100, 140, -14};

    private static long seed;
    private static final int[][] made = new int[CALLS][];
    private static final boolean[] changes = new boolean[CALLS];
    private static int calls;

    public static void main(String[] args) {
        for (int run = 0; run < RUNS; run++) {
            seed = 1000 + 77L * run;
            calls = 0;
            FireEngines x = new FireEngines();
            int town = 4 + pick(10);
            for (int i = 0; i < CALLS; i++) {
                int[] call = i < 60 ? buildingCall(town) : anyCall(town);
                made[calls] = call;
                changes[calls] = make(x, call, true);
                calls++;
                checkTown(x);
                if (i % 40 == 39) {
                    looksAhead(x);
                    advises(x);
                    weakest(x);
                }
            }
            Check.same("the same calls answer the same", again().digest(), x.digest());
            Check.twins("without those that were refused or asked alone", againWithoutOthers(), x);
        }
        Check.end();
    }

    private static int pick(int below) {
        seed = seed * 6364136223846793005L + 1442695040888963407L;
        return (int) ((seed >>> 33) % below);
    }

    /** A number mostly from 0 to below, now and then a bit beside it or a wild one. */
    private static int number(int below) {
        int way = pick(40);
        if (way == 0) {
            return WILD[pick(WILD.length)];
        }
        return way == 1 ? pick(below + 4) - 2 : pick(below);
    }

    private static int[] buildingCall(int town) {
        switch (pick(4)) {
            case 0:
                return new int[] {6, number(town), number(town < 10 ? town : 10), 1 + number(4), 1 + number(20)};
            case 1:
                return new int[] {1, number(town), number(town < 10 ? town : 10), number(400), 0};
            default:
                return new int[] {0, number(town), number(town < 10 ? town : 10), 1 + number(9), 1 + number(60)};
        }
    }

    private static int[] anyCall(int town) {
        int kind = pick(19);
        switch (kind) {
            case 0:
            case 1:
            case 6:
                return pick(4) == 0 ? buildingCall(town) : new int[] {10, number(6), number(25), 0, 0};
            case 2:
                return new int[] {2, number(25), 1 + number(60), 0, 0};
            case 7:
                return new int[] {7, number(6), 1 + number(100), 0, 0};
            case 8:
                return new int[] {8, number(6), number(town), number(town < 10 ? town : 10), 0};
            case 14:
                return new int[] {14, pick(8) == 0 ? number(101) : 1 + number(6), 0, 0, 0};
            case 16:
                return new int[] {16, number(101), number(3), 0, 0};
            default:
                return new int[] {kind, number(14), number(10), number(4), 0};
        }
    }

    /** Makes a call, and tells whether it may have changed something. */
    private static boolean make(FireEngines x, int[] c, boolean check) {
        long before = check ? x.digest() : 0;
        boolean threw = false;
        try {
            call(x, c);
        } catch (IndexOutOfBoundsException | IllegalArgumentException | IllegalStateException e) {
            threw = true;
            if (check) {
                ownThrow(e);
            }
        }
        boolean asks = c[0] == 3 || c[0] == 4 || c[0] == 12 || c[0] == 13 || c[0] >= 15;
        if (check && (threw || asks) && x.digest() != before) {
            Check.fault("call " + c[0] + " changed something");
        }
        return !threw && !asks;
    }

    private static void ownThrow(RuntimeException e) {
        Class<?> type = e.getClass();
        boolean named = type == IndexOutOfBoundsException.class || type == IllegalArgumentException.class
            || type == IllegalStateException.class;
        if (!named || !e.getStackTrace()[0].getClassName().startsWith("FireEngines")) {
            Check.fault("the machine threw " + e);
        }
    }

    private static void call(FireEngines x, int[] c) {
        switch (c[0]) {
            case 0: x.build(c[1], c[2], c[3], c[4]); break;
            case 1: x.dig(c[1], c[2], c[3]); break;
            case 2: x.light(c[1], c[2]); break;
            case 3: x.cell(c[1], c[2], c[3]); break;
            case 4: x.house(c[1], c[2]); break;
            case 6: x.addEngine(c[1], c[2], c[3], c[4]); break;
            case 7: x.stoke(c[1], c[2]); break;
            case 8: x.drive(c[1], c[2], c[3]); break;
            case 9: x.relay(c[1], c[2]); break;
            case 10: x.aim(c[1], c[2]); break;
            case 11: x.takeUp(c[1]); break;
            case 12: x.engine(c[1], c[2]); break;
            case 13: x.pond(c[1]); break;
            case 14: x.pass(c[1]); break;
            case 15: x.count(c[1]); break;
            case 16: x.foresee(c[1], c[2]); break;
            case 17: x.weakest(c[1]); break;
            case 18: x.advise(c[1], c[2]); break;
            default: x.lasts(); break;
        }
    }

    /** A new object behind the same calls. */
    private static FireEngines again() {
        FireEngines x = new FireEngines();
        for (int i = 0; i < calls; i++) {
            make(x, made[i], false);
        }
        return x;
    }

    /** A new object behind those of the calls alone that changed something. */
    private static FireEngines againWithoutOthers() {
        FireEngines x = new FireEngines();
        for (int i = 0; i < calls; i++) {
            if (changes[i]) {
                make(x, made[i], false);
            }
        }
        return x;
    }

    private static void checkTown(FireEngines x) {
        int[] states = new int[4];
        int heat = 0;
        int came = 0;
        int sum = 0;
        for (int i = 0; i < x.count(1); i++) {
            int state = x.house(i, 3);
            states[state]++;
            heat += x.house(i, 4);
            came += x.house(i, 6);
            sum += x.house(i, 2);
            Check.same("a burning one has heat", x.house(i, 4) > 0, state == 1);
            Check.same("a fallen one has no walls", x.house(i, 2) == 0, state == 3);
            Check.same("its cell is a house's", x.cell(x.house(i, 0) % 14, x.house(i, 0) / 14, 1), i);
        }
        int water = 0;
        for (int i = 0; i < x.count(5); i++) {
            water += x.pond(i);
        }
        Check.same("burning", x.count(2), states[1]);
        Check.same("out", x.count(3), states[2]);
        Check.same("fallen", x.count(4), states[3]);
        Check.same("water of ponds", x.count(7), water);
        Check.same("all heat", x.count(8), heat);
        Check.same("all that came", x.count(9), came);
        Check.same("walls", x.walls(), x.count(1) == 0 ? 0.0 : (double) sum / x.count(1));
        for (int i = 0; i < x.count(6); i++) {
            checkEngine(x, i);
        }
    }

    private static void checkEngine(FireEngines x, int i) {
        int cell = x.engine(i, 0);
        Check.same("an engine is on a street", x.cell(cell % 14, cell / 14, 0), 0);
        boolean stands = x.engine(i, 5) == 0;
        int steam = x.engine(i, 4);
        Check.same("can pump", x.engine(i, 9), stands && steam >= 20 ? x.engine(i, 2) * steam / 20 : 0);
        int hose = x.engine(i, 6);
        if (hose != -1) {
            Check.same("one with a hose stands", stands, true);
            int to = hose >= 100 ? x.house(hose - 100, 0) : x.engine(hose, 0);
            Check.same("its hose is no longer than 6", steps(cell, to) <= 6, true);
        }
        if (hose >= 0 && hose < 100) {
            Check.same("the other stands", x.engine(hose, 5), 0);
        }
    }

    private static int steps(int a, int b) {
        return Math.abs(a % 14 - b % 14) + Math.abs(a / 14 - b / 14);
    }

    private static void looksAhead(FireEngines x) {
        int lasts = x.lasts();
        int due = -1;
        FireEngines y = again();
        for (int minutes = 0; minutes <= 200; minutes++) {
            if (minutes > 0) {
                y.pass(1);
            }
            if (due == -1 && y.count(2) == 0) {
                due = minutes;
            }
            if (minutes == 1 || minutes == 7 || minutes == 100) {
                Check.same("foresee 0", x.foresee(minutes, 0), y.count(2));
                Check.same("foresee 1", x.foresee(minutes, 1), y.count(4));
                Check.same("foresee 2", x.foresee(minutes, 2), y.count(8));
            }
        }
        Check.same("lasts", lasts, due);
        FireEngines z = again();
        int burning = z.count(2);
        int whole = z.count(1) - burning - z.count(3) - z.count(4);
        int caught = z.pass(30);
        Check.same("those that caught fire", caught, whole - (z.count(1) - z.count(2) - z.count(3) - z.count(4)));
    }

    private static void advises(FireEngines x) {
        int minutes = 1 + pick(50);
        for (int engine = 0; engine < x.count(6); engine++) {
            int best = -1;
            int fewest = 1000;
            for (int house = 0; house < x.count(1) && x.engine(engine, 5) == 0; house++) {
                if (x.house(house, 3) == 1 && steps(x.engine(engine, 0), x.house(house, 0)) <= 6) {
                    FireEngines y = again();
                    y.aim(engine, house);
                    y.pass(minutes);
                    if (y.count(4) < fewest) {
                        fewest = y.count(4);
                        best = house;
                    }
                }
            }
            Check.same("advise", x.advise(engine, minutes), best);
        }
    }

    private static void weakest(FireEngines x) {
        for (int engine = 0; engine < x.count(6); engine++) {
            int due = -1;
            for (int i = 0; i < x.count(6); i++) {
                int at = i;
                while (at != engine && at >= 0 && at < 100) {
                    at = x.engine(at, 6);
                }
                if (at == engine && (due == -1 || x.engine(i, 9) < x.engine(due, 9))) {
                    due = i;
                }
            }
            Check.same("weakest", x.weakest(engine), due);
        }
    }
}
