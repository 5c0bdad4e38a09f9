/** Promises 17 to 22: foresee, lasts, weakest, advise, walls, digest. */
public final class AheadTest {
    private static final int MIN = Integer.MIN_VALUE;
    private static final int MAX = Integer.MAX_VALUE;

    public static void main(String[] args) {
        foresee();
        foreseeRefuses();
        foreseeWithEngines();
        lasts();
        lastsAtItsEnd();
        weakest();
        weakestOfSeveral();
        weakestRefuses();
        advise();
        adviseHowManyMinutes();
        adviseWithin();
        adviseRefuses();
        walls();
        digest();
        Check.end();
    }

    private static void foresee() {
        FireEngines x = new FireEngines();
        x.build(5, 5, 5, 9);
        x.build(6, 5, 1, 60);
        x.build(9, 9, 1, 1);
        x.light(0, 29);
        x.light(2, 1);
        long before = x.digest();
        Check.same("burning behind 1", x.foresee(1, 0), 1);
        Check.same("fallen behind 1", x.foresee(1, 1), 1);
        Check.same("heat behind 1", x.foresee(1, 2), 34);
        Check.same("burning behind 3", x.foresee(3, 0), 2);
        Check.same("fallen behind 3", x.foresee(3, 1), 1);
        Check.same("heat behind 3", x.foresee(3, 2), 49);
        Check.same("fallen behind 100", x.foresee(100, 1), 3);
        Check.same("burning behind 100", x.foresee(100, 0), 0);
        Check.same("nothing is changed", x.digest(), before);
        x.pass(3);
        Check.same("it comes so", x.count(8), 49);
    }

    private static void foreseeRefuses() {
        FireEngines x = new FireEngines();
        for (int minutes : new int[] {0, -1, 101, MIN, MAX}) {
            Check.noArgument("foresee " + minutes, x, () -> x.foresee(minutes, 0));
            Check.noArgument("wrong minutes go before what", x, () -> x.foresee(minutes, 3));
        }
        for (int what : new int[] {-1, 3, MIN, MAX}) {
            Check.noIndex("foresee what " + what, x, () -> x.foresee(1, what));
            Check.noIndex("foresee what " + what, x, () -> x.foresee(100, what));
        }
        Check.same("of an empty town", x.foresee(100, 0), 0);
    }

    private static void foreseeWithEngines() {
        FireEngines x = new FireEngines();
        x.foresee(1, 0);
        x.dig(0, 0, 500);
        x.addEngine(1, 0, 4, 20);
        x.addEngine(3, 0, 4, 20);
        x.build(4, 0, 2, 60);
        x.foresee(1, 0);
        x.build(5, 0, 2, 60);
        x.relay(0, 1);
        x.aim(1, 0);
        x.addEngine(8, 8, 1, 1);
        x.drive(2, 9, 8);
        x.light(0, 20);
        long before = x.digest();
        int burning = x.foresee(12, 0);
        int fallen = x.foresee(12, 1);
        int heat = x.foresee(12, 2);
        Check.same("nothing is changed", x.digest(), before);
        x.pass(12);
        Check.same("burning", x.count(2), burning);
        Check.same("fallen", x.count(4), fallen);
        Check.same("heat", x.count(8), heat);
        Check.same("it is out by the water", x.count(3), 1);
        foreseeWithoutCoal();
    }

    /** The coal is at its end when the fire begins, so that the water dwindles. */
    private static void foreseeWithoutCoal() {
        FireEngines x = new FireEngines();
        x.dig(0, 0, 5000);
        x.addEngine(1, 0, 4, 10);
        x.build(2, 0, 9, 60);
        x.pass(59);
        x.aim(0, 0);
        x.light(0, 30);
        int heat = x.foresee(12, 2);
        x.pass(12);
        Check.same("coal", x.engine(0, 3), 0);
        Check.same("steam", x.engine(0, 4), 43);
        Check.same("heat", x.count(8), heat);
    }

    private static void lasts() {
        FireEngines x = new FireEngines();
        Check.same("nothing there", x.lasts(), 0);
        x.build(0, 0, 5, 9);
        Check.same("nothing burns", x.lasts(), 0);
        x.light(0, 14);
        long before = x.digest();
        Check.same("it falls in the 6th minute", x.lasts(), 6);
        Check.same("nothing is changed", x.digest(), before);
        x.pass(5);
        Check.same("one yet", x.lasts(), 1);
        x.pass(1);
        Check.same("none", x.lasts(), 0);
    }

    /** A row of houses that catch fire one behind the other lasts longer than 200 minutes. */
    private static void lastsAtItsEnd() {
        FireEngines x = new FireEngines();
        for (int i = 0; i < 12; i++) {
            x.build(i, 0, 1, 60);
        }
        x.light(0, 1);
        long before = x.digest();
        Check.same("some burn behind all of these", x.lasts(), -1);
        Check.same("nothing is changed", x.digest(), before);
        for (int i = 0; i < 490 && x.lasts() == -1; i++) {
            x.pass(1);
        }
        Check.same("at most 200", x.lasts(), 200);
        x.pass(1);
        Check.same("a minute later", x.lasts(), 199);
        x.pass(99);
        x.pass(99);
        Check.same("some burn at the last but one", x.count(2) > 0, true);
        x.pass(1);
        Check.same("none burns at the last", x.count(2), 0);
    }

    private static void weakest() {
        FireEngines x = new FireEngines();
        x.addEngine(0, 0, 1, 5);
        x.addEngine(1, 0, 1, 4);
        x.addEngine(2, 0, 1, 9);
        x.addEngine(3, 0, 1, 9);
        x.addEngine(4, 0, 1, 1);
        x.addEngine(5, 0, 1, 2);
        x.build(6, 0, 1, 60);
        x.relay(0, 2);
        x.relay(1, 2);
        x.relay(2, 3);
        x.relay(3, 5);
        x.aim(4, 0);
        Check.same("all can pump nothing", x.weakest(3), 0);
        Check.same("itself alone", x.weakest(1), 1);
        Check.same("no hose goes to it", x.weakest(4), 4);
        x.pass(5);
        Check.same("the weaker of the branches", x.weakest(3), 1);
        Check.same("and of two in a row", x.weakest(2), 1);
        Check.same("its own water goes on, but does not come to it", x.weakest(0), 0);
        Check.same("itself", x.weakest(5), 5);
        x.takeUp(2);
        Check.same("nothing comes any more", x.weakest(3), 3);
        x.relay(2, 3);
        x.drive(0, 0, 1);
        Check.same("one that drives has no hose", x.weakest(3), 1);
        Check.same("one that drives, itself", x.weakest(0), 0);
    }

    private static void weakestOfSeveral() {
        FireEngines x = new FireEngines();
        x.addEngine(0, 0, 1, 7);
        x.addEngine(1, 0, 1, 6);
        x.addEngine(2, 0, 1, 6);
        x.addEngine(3, 0, 1, 6);
        x.relay(2, 3);
        x.relay(3, 1);
        x.relay(0, 1);
        x.pass(10);
        Check.same("1, 2 and 3 are even", x.weakest(1), 1);
        weakerAndStillWeaker();
        Check.same("2 and 3 are even", x.weakest(3), 2);
        FireEngines y = new FireEngines();
        y.addEngine(0, 0, 1, 6);
        y.addEngine(1, 0, 1, 9);
        y.pass(4);
        y.relay(1, 0);
        y.addEngine(2, 0, 1, 20);
        y.relay(2, 1);
        y.pass(1);
        Check.same("by what it can pump now, not by its power", y.weakest(0), 2);
    }

    private static void weakerAndStillWeaker() {
        FireEngines x = new FireEngines();
        x.addEngine(0, 0, 1, 5);
        x.addEngine(1, 0, 1, 7);
        x.addEngine(2, 0, 1, 9);
        x.relay(0, 1);
        x.relay(1, 2);
        x.pass(10);
        Check.same("the weakest is not the last weaker one", x.weakest(2), 0);
        x.addEngine(3, 0, 1, 8);
        x.relay(3, 2);
        Check.same("one without steam can pump nothing", x.weakest(2), 3);
    }

    private static void weakestRefuses() {
        FireEngines x = new FireEngines();
        Check.noIndex("of none", x, () -> x.weakest(0));
        x.addEngine(0, 0, 1, 5);
        for (int engine : new int[] {-1, 1, MIN, MAX}) {
            Check.noIndex("weakest(" + engine + ")", x, () -> x.weakest(engine));
        }
    }

    /** The engine can put out one of two small fires; each would fall without its water. */
    private static FireEngines twoFires(int wallsOfFirst, int wallsOfSecond) {
        FireEngines x = new FireEngines();
        x.dig(5, 5, 5000);
        x.addEngine(5, 4, 1, 20);
        x.build(3, 4, 3, wallsOfFirst);
        x.build(7, 4, 3, wallsOfSecond);
        x.pass(10);
        x.light(0, 10);
        x.light(1, 10);
        return x;
    }

    private static void advise() {
        FireEngines x = twoFires(60, 6);
        long before = x.digest();
        Check.same("the one that would fall", x.advise(0, 10), 1);
        Check.same("nothing is changed", x.digest(), before);
        Check.same("not even its hose", x.engine(0, 6), -1);
        Check.same("the other one", twoFires(6, 60).advise(0, 10), 0);
        Check.same("even: the smallest number", twoFires(6, 6).advise(0, 10), 0);
        Check.same("none falls: the smallest number", twoFires(60, 6).advise(0, 1), 0);
        x.aim(0, 0);
        Check.same("also in the place of a hose", x.advise(0, 10), 1);
        Check.same("which stays", x.engine(0, 6), 100);
    }

    private static void adviseHowManyMinutes() {
        FireEngines x = twoFires(6, 12);
        int[] fallen = new int[2];
        for (int minutes = 1; minutes <= 50; minutes++) {
            for (int house = 0; house < 2; house++) {
                FireEngines y = twoFires(6, 12);
                y.aim(0, house);
                y.pass(minutes);
                fallen[house] = y.count(4);
            }
            Check.same("in " + minutes, x.advise(0, minutes), fallen[0] <= fallen[1] ? 0 : 1);
        }
    }

    private static void adviseWithin() {
        FireEngines x = new FireEngines();
        x.addEngine(0, 0, 4, 20);
        Check.same("no houses", x.advise(0, 1), -1);
        x.build(7, 0, 1, 60);
        x.light(0, 50);
        Check.same("out of reach", x.advise(0, 50), -1);
        x.build(3, 3, 1, 60);
        Check.same("the near one does not burn", x.advise(0, 1), -1);
        x.light(1, 9);
        Check.same("6 away", x.advise(0, 50), 1);
        x.build(0, 1, 1, 1);
        x.light(2, 5);
        x.drive(0, 1, 0);
        Check.same("it drives", x.advise(0, 1), -1);
        x.pass(1);
        Check.same("2 has fallen, and 0 is in reach now", x.advise(0, 50), 0);
    }

    private static void adviseRefuses() {
        FireEngines x = new FireEngines();
        Check.noIndex("of none", x, () -> x.advise(0, 1));
        x.addEngine(0, 0, 1, 1);
        for (int engine : new int[] {-1, 1, MIN, MAX}) {
            Check.noIndex("advise(" + engine + ")", x, () -> x.advise(engine, 1));
            Check.noIndex("no engine goes before wrong minutes", x, () -> x.advise(engine, 0));
        }
        for (int minutes : new int[] {0, 51, -1, MIN, MAX}) {
            Check.noArgument("advise in " + minutes, x, () -> x.advise(0, minutes));
        }
        x.drive(0, 1, 1);
        Check.noArgument("also when it drives", x, () -> x.advise(0, 51));
    }

    private static void walls() {
        FireEngines x = new FireEngines();
        Check.same("no houses", x.walls(), 0.0);
        x.build(0, 0, 1, 60);
        Check.same("one", x.walls(), 60.0);
        x.build(5, 5, 1, 1);
        Check.same("two", x.walls(), 30.5);
        x.build(9, 9, 1, 2);
        Check.same("three", x.walls(), 21.0);
        x.light(1, 50);
        x.light(0, 9);
        x.pass(1);
        Check.same("a fallen one counts 0", x.walls(), 61.0 / 3.0);
    }

    private static void digest() {
        FireEngines x = new FireEngines();
        x.dig(4, 6, 300);
        x.dig(1, 2, 30);
        x.addEngine(5, 5, 4, 10);
        x.addEngine(6, 6, 2, 9);
        x.build(7, 7, 3, 33);
        x.build(7, 8, 3, 33);
        x.aim(1, 0);
        x.relay(0, 1);
        x.light(0, 30);
        x.pass(8);
        x.drive(0, 0, 0);
        long d = 607;
        for (int what = 0; what <= 9; what++) {
            d = d * 31 + x.count(what);
        }
        for (int house = 0; house < 2; house++) {
            for (int what = 0; what <= 6; what++) {
                d = d * 31 + x.house(house, what);
            }
        }
        d = (d * 31 + 4 + 14 * 6) * 31 + x.pond(0);
        d = (d * 31 + 1 + 14 * 2) * 31 + x.pond(1);
        for (int engine = 0; engine < 2; engine++) {
            for (int what = 0; what <= 9; what++) {
                d = d * 31 + x.engine(engine, what);
            }
        }
        Check.same("digest", x.digest(), d);
        Check.same("twice the same", x.digest(), d);
    }
}
