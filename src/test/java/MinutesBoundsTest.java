/** Promises 15 and 16 and the steps of a minute: each sentence that names a boundary has a test of its own. */
public final class MinutesBoundsTest {
    private static final int MIN = Integer.MIN_VALUE;
    private static final int MAX = Integer.MAX_VALUE;

    public static void main(String[] args) {
        passMinutes();
        refusedPassesChangeNothing();
        passCaughtNoneAndAll();
        countWhat();
        countNoneAndAll();
        coalAtItsEnd();
        steamAtMost();
        steamAtLeast();
        driveToTheLastMinute();
        pumpsWithTwenty();
        noHoseNoWater();
        pondHasJustEnough();
        emptyPondGoesFirst();
        sucksBeyondWhatCame();
        theRestIsLost();
        lostOnTheWay();
        lostIsCut();
        twoLessSteam();
        askedByTheSmallestNumber();
        askedInARowOfSix();
        heatAtMost99();
        heatLessAQuarter();
        heatOfNothing();
        heatOver25();
        wallsAtLeast0();
        waterOnOneThatDoesNotBurn();
        catchesAtForty();
        catchesLessTheWater();
        catchesWithFive();
        catchesBehindStepFour();
        onlyWholeOnesCatch();
        theMinute();
        Check.end();
    }

    // ---- promises 15 and 16

    /** "Throws IllegalArgumentException if minutes is not 1 to 100". */
    private static void passMinutes() {
        FireEngines x = new FireEngines();
        for (int minutes : new int[] {0, 101, -1, MIN, MAX}) {
            Check.noArgument("pass(" + minutes + ")", x, () -> x.pass(minutes));
        }
        Check.same("pass(1)", x.pass(1), 0);
        Check.same("the minute", x.count(0), 1);
        Check.same("pass(100)", x.pass(100), 0);
        Check.same("the minute", x.count(0), 101);
    }

    /** "A method that throws an exception changes nothing." */
    private static void refusedPassesChangeNothing() {
        FireEngines x = Towns.withHouse(Towns.BURNS);
        Check.noArgument("none", x, () -> x.pass(0));
        Check.noArgument("too many", x, () -> x.pass(101));
        Check.noIndex("count", x, () -> x.count(10));
        Check.noIndex("count", x, () -> x.count(-1));
        Check.twins("passes", x, Towns.withHouse(Towns.BURNS));
    }

    /** "Returns how many houses caught fire in them": none, and all but the one that was lit. */
    private static void passCaughtNoneAndAll() {
        FireEngines x = Towns.full();
        Check.same("none burns", x.pass(100), 0);
        x.light(0, 99);
        int caught = x.pass(1);
        Check.same("its three neighbours", caught, 3);
        caught += x.pass(100);
        caught += x.pass(100);
        Check.same("all but the one that was lit", caught, 29);
        Check.same("all have fallen", x.count(4), 30);
        Check.same("none is left", x.pass(100), 0);
    }

    /** "Throws IndexOutOfBoundsException if what is not 0 to 9". */
    private static void countWhat() {
        FireEngines x = Towns.full();
        for (int what : new int[] {-1, 10, MIN, MAX}) {
            Check.noIndex("count(" + what + ")", x, () -> x.count(what));
        }
        Check.same("what 0", x.count(0), 0);
        Check.same("what 9", x.count(9), 0);
    }

    /** "0 the minute, 1 houses, 2 .." with as many as there can be. */
    private static void countNoneAndAll() {
        FireEngines x = Towns.full();
        for (int i = 0; i < 30; i++) {
            x.light(i, 99);
        }
        int[] all = {0, 30, 30, 0, 0, 6, 6, 30000, 30 * 99, 0};
        for (int what = 0; what <= 9; what++) {
            Check.same("count(" + what + ")", x.count(what), all[what]);
        }
        x.pass(14);
        Check.same("in the 14th minute all burn", x.count(2), 30);
        x.pass(1);
        Check.same("in the 15th all have fallen", x.count(4), 30);
        Check.same("and none burns", x.count(2), 0);
        Check.same("no heat", x.count(8), 0);
        FireEngines y = Towns.withHouse(Towns.OUT);
        Check.same("one is out", y.count(3), 1);
        Check.same("the water that came in all", y.count(9), 20);
        Check.same("and the pond has less", y.count(7), 4980);
    }

    // ---- step 1

    /** "each engine that has coal burns 1": the last one too; "coal, 0 to 200". */
    private static void coalAtItsEnd() {
        FireEngines x = new FireEngines();
        x.addEngine(0, 0, 1, 1);
        x.pass(59);
        Check.same("coal", x.engine(0, 3), 1);
        x.pass(1);
        Check.same("none left", x.engine(0, 3), 0);
        Check.same("the last one gave steam", x.engine(0, 4), 100);
        x.pass(1);
        Check.same("none left", x.engine(0, 3), 0);
        Check.same("3 less", x.engine(0, 4), 97);
    }

    /** "has 4 more steam (at most 100)": from 92, 96, 97, 98 and 100. */
    private static void steamAtMost() {
        FireEngines x = Towns.readyToPump(1, 5000, 1);
        x.takeUp(0);
        x.pass(20);
        Check.same("from 92", x.engine(0, 4), 96);
        x.pass(1);
        Check.same("from 96", x.engine(0, 4), 100);
        x.pass(1);
        Check.same("from 100", x.engine(0, 4), 100);
        x.aim(0, 0);
        x.pass(1);
        Check.same("from 100, less 2", x.engine(0, 4), 98);
        x.takeUp(0);
        x.pass(1);
        Check.same("from 98", x.engine(0, 4), 100);
        x.pass(33);
        Check.same("without coal", x.engine(0, 4), 97);
        x.stoke(0, 1);
        x.pass(1);
        Check.same("from 97", x.engine(0, 4), 100);
    }

    /** "one without coal has 3 less (at least 0)": from 4, 1 and 0, and from 2. */
    private static void steamAtLeast() {
        FireEngines x = new FireEngines();
        x.addEngine(0, 0, 1, 1);
        x.pass(60);
        x.pass(32);
        Check.same("from 7", x.engine(0, 4), 4);
        x.pass(1);
        Check.same("from 4", x.engine(0, 4), 1);
        x.pass(1);
        Check.same("from 1", x.engine(0, 4), 0);
        x.pass(1);
        Check.same("from 0", x.engine(0, 4), 0);
        FireEngines y = Towns.readyToPump(1, 5000, 1);
        y.takeUp(0);
        y.pass(55);
        y.aim(0, 0);
        y.pass(1);
        y.takeUp(0);
        Check.same("coal", y.engine(0, 3), 0);
        y.pass(32);
        Check.same("98 less 96", y.engine(0, 4), 2);
        y.pass(1);
        Check.same("from 2", y.engine(0, 4), 0);
    }

    // ---- step 2

    /** "each engine that drives has a minute less; with none left it stands at its goal." */
    private static void driveToTheLastMinute() {
        FireEngines x = new FireEngines();
        x.dig(1, 1, 10);
        x.addEngine(0, 9, 4, 20);
        x.pass(10);
        x.drive(0, 0, 0);
        x.pass(8);
        Check.same("a minute yet", x.engine(0, 5), 1);
        Check.same("where it began", x.engine(0, 0), 126);
        Check.same("no pond", x.engine(0, 7), -1);
        Check.same("it pumps nothing", x.engine(0, 9), 0);
        x.pass(1);
        Check.same("it stands", x.engine(0, 5), 0);
        Check.same("there", x.engine(0, 0), 0);
        Check.same("by the pond", x.engine(0, 7), 0);
        Check.same("and can pump", x.engine(0, 9), 76);
        x.pass(1);
        Check.same("no minute less than none", x.engine(0, 5), 0);
    }

    // ---- step 3

    /** "if it stands and has a steam of at least 20, otherwise nothing": 20 and 19 in the step itself. */
    private static void pumpsWithTwenty() {
        FireEngines x = Towns.readyToPump(7, 5000, 1);
        x.pass(1);
        Check.same("with 20", x.engine(0, 8), 7);
        FireEngines y = Towns.readyToPump(7, 5000, 1);
        y.takeUp(0);
        y.pass(56);
        y.pass(26);
        Check.same("steam", y.engine(0, 4), 22);
        y.aim(0, 0);
        y.pass(1);
        Check.same("with 19", y.engine(0, 8), 0);
        Check.same("nothing came", y.house(0, 5), 0);
        Check.same("the pond is full", y.pond(0), 5000);
        y.stoke(0, 1);
        y.pass(1);
        Check.same("with 23", y.engine(0, 8), 8);
    }

    /** "One without a hose sucks nothing, and what comes to it is lost." */
    private static void noHoseNoWater() {
        FireEngines x = new FireEngines();
        x.dig(0, 0, 5000);
        x.dig(3, 0, 5000);
        x.addEngine(1, 0, 4, 10);
        x.addEngine(2, 0, 4, 10);
        x.build(2, 1, 1, 60);
        x.relay(0, 1);
        x.pass(5);
        Check.same("came to it", x.engine(0, 8), 10);
        Check.same("it gave nothing", x.engine(1, 8), 0);
        Check.same("its pond", x.pond(1), 5000);
        Check.same("its steam", x.engine(1, 4), 20);
        x.takeUp(0);
        x.aim(1, 0);
        x.pass(1);
        Check.same("nothing was kept", x.pond(1), 5000 - 12);
    }

    /** "as far as the pond has water": one more than it can pump, as much, one less, none. */
    private static void pondHasJustEnough() {
        int[] water = {21, 20, 19, 1, 0};
        int[] given = {20, 20, 19, 1, 0};
        for (int i = 0; i < water.length; i++) {
            FireEngines x = Towns.readyToPump(20, water[i], 1);
            x.pass(1);
            Check.same("given of " + water[i], x.engine(0, 8), given[i]);
            Check.same("came of " + water[i], x.house(0, 5), given[i]);
            Check.same("left of " + water[i], x.pond(0), water[i] - given[i]);
        }
    }

    /** "of several from the one with the smallest number": also when that one is empty, or gets so. */
    private static void emptyPondGoesFirst() {
        FireEngines x = Towns.readyToPump(20, 5, 1);
        x.dig(1, 1, 5000);
        x.pass(1);
        Check.same("only what the first one has", x.engine(0, 8), 5);
        x.pass(1);
        Check.same("nothing from the empty one", x.engine(0, 8), 0);
        Check.same("nothing from the other one", x.pond(1), 5000);
    }

    /** "sucks besides, if it can suck, as much as it can pump beyond that": one less came, as much, one more. */
    private static void sucksBeyondWhatCame() {
        for (int came = 9; came <= 11; came++) {
            FireEngines x = new FireEngines();
            x.dig(0, 0, 5000);
            x.dig(3, 0, 5000);
            x.addEngine(1, 0, 4, came);
            x.addEngine(2, 0, 4, 10);
            x.build(2, 1, 1, 60);
            x.relay(0, 1);
            x.aim(1, 0);
            x.pass(5);
            Check.same("given", x.engine(1, 8), 10);
            Check.same("sucked beside " + came, 5000 - x.pond(1), came == 9 ? 1 : 0);
            Check.same("sucked for it", 5000 - x.pond(0), came);
        }
    }

    /** "it gives into its hose what it can pump at most (the rest is lost)": five come to one that can pump 1. */
    private static void theRestIsLost() {
        FireEngines x = new FireEngines();
        for (int i = 0; i < 5; i++) {
            x.dig(i, 0, 5000);
            x.addEngine(i, 1, 4, 20);
        }
        x.addEngine(2, 2, 4, 1);
        x.build(3, 2, 1, 60);
        for (int i = 0; i < 5; i++) {
            x.relay(i, 5);
        }
        x.aim(5, 0);
        x.pass(5);
        Check.same("all ponds", x.count(7), 25000 - 100);
        Check.same("given", x.engine(5, 8), 1);
        Check.same("came", x.house(0, 6), 1);
        x.pass(1);
        Check.same("nothing was kept", x.house(0, 5), 1);
    }

    /** "given * (its length / 2) / 10 is lost on the way", with a hose 0 to 6 long. */
    private static void lostOnTheWay() {
        int[] comes = {100, 100, 90, 90, 80, 80, 70};
        for (int length = 0; length <= 6; length++) {
            FireEngines x = new FireEngines();
            x.dig(0, 0, 5000);
            x.addEngine(1, 0, 4, 20);
            x.addEngine(1 + length, 0, 4, 20);
            x.build(1 + length, 1, 1, 60);
            x.pass(24);
            Check.same("length", x.relay(0, 1), length);
            x.aim(1, 0);
            x.pass(1);
            Check.same("given", x.engine(0, 8), 100);
            Check.same("given on", x.engine(1, 8), length == 0 ? 100 : comes[length]);
            if (length > 0) {
                FireEngines y = Towns.readyToPump(20, 5000, length);
                y.takeUp(0);
                y.pass(20);
                y.aim(0, 0);
                y.pass(1);
                Check.same("came over " + length, y.house(0, 5), comes[length]);
            }
        }
    }

    /** "/ is cut towards 0": just not enough for one lost, and just enough. */
    private static void lostIsCut() {
        int[][] due = {{2, 9, 9}, {2, 10, 9}, {2, 19, 18}, {2, 20, 18}, {3, 10, 9}, {4, 4, 4}, {4, 5, 4},
            {5, 9, 8}, {5, 10, 8}, {6, 3, 3}, {6, 4, 3}, {6, 6, 5}, {6, 7, 5}, {1, 20, 20}};
        for (int[] d : due) {
            FireEngines x = Towns.readyToPump(d[1], 5000, d[0]);
            x.pass(1);
            Check.same("given", x.engine(0, 8), d[1]);
            Check.same("came of " + d[1] + " over " + d[0], x.house(0, 5), d[2]);
            Check.same("the pond has what was given less", x.pond(0), 5000 - d[1]);
        }
    }

    /** "each engine that gave something into its hose has 2 less steam then": for 1, and not for 0. */
    private static void twoLessSteam() {
        FireEngines x = Towns.readyToPump(20, 1, 1);
        x.pass(1);
        Check.same("gave 1", x.engine(0, 8), 1);
        Check.same("2 less", x.engine(0, 4), 18);
        x.pass(1);
        Check.same("gave 0", x.engine(0, 8), 0);
        Check.same("no less", x.engine(0, 4), 22);
    }

    /** "always the one with the smallest number of those not asked yet": for the last water of a pond. */
    private static void askedByTheSmallestNumber() {
        FireEngines x = new FireEngines();
        x.dig(1, 1, 1);
        x.build(1, 2, 1, 60);
        for (int i = 0; i < 6; i++) {
            x.addEngine(i % 3, 0, 4, 1);
        }
        for (int i = 5; i >= 0; i--) {
            x.aim(i, 0);
        }
        x.pass(5);
        for (int i = 0; i < 6; i++) {
            Check.same("gave: engine " + i, x.engine(i, 8), i == 0 ? 1 : 0);
        }
    }

    /** "to which no engine not asked yet has its hose": from the last number down to the first in one minute. */
    private static void askedInARowOfSix() {
        FireEngines x = new FireEngines();
        x.dig(7, 0, 5000);
        x.build(0, 0, 1, 60);
        for (int i = 0; i < 6; i++) {
            x.addEngine(1 + i, 0, 4, 10 + i);
        }
        x.aim(0, 0);
        for (int i = 1; i < 6; i++) {
            x.relay(i, i - 1);
        }
        x.pass(4);
        Check.same("no steam yet", x.house(0, 6), 0);
        x.pass(1);
        for (int i = 0; i < 6; i++) {
            Check.same("gave: engine " + i, x.engine(i, 8), 10 + i);
        }
        Check.same("came", x.house(0, 5), 10);
    }

    // ---- step 4

    /** "becomes greater by its wood .. but at most 99": to 98, 99 and beyond, and behind the water. */
    private static void heatAtMost99() {
        int[][] due = {{9, 89, 98}, {9, 90, 99}, {9, 91, 99}, {9, 99, 99}, {1, 98, 99}, {1, 99, 99}, {1, 97, 98}};
        for (int[] d : due) {
            FireEngines x = new FireEngines();
            x.build(0, 0, d[0], 60);
            x.light(0, d[1]);
            x.pass(1);
            Check.same("heat from " + d[1], x.house(0, 4), d[2]);
        }
        int[] powers = {15, 16, 19, 20};
        int[] heats = {97, 96, 96, 95};
        for (int i = 0; i < powers.length; i++) {
            FireEngines x = Towns.readyToPump(powers[i], 5000, 1);
            x.light(0, 99);
            x.pass(1);
            Check.same("99 and 1 less a quarter of " + powers[i], x.house(0, 4), heats[i]);
        }
    }

    /** "less by a quarter (cut) of the water that came to it in this minute". */
    private static void heatLessAQuarter() {
        for (int water = 1; water <= 20; water++) {
            FireEngines x = Towns.readyToPump(water, 5000, 1);
            x.light(0, 30);
            x.pass(1);
            Check.same("water", x.house(0, 5), water);
            int quarter = water < 4 ? 0 : water < 8 ? 1 : water < 12 ? 2 : water < 16 ? 3 : water < 20 ? 4 : 5;
            Check.same("heat by " + water, x.house(0, 4), 31 - quarter);
        }
    }

    /** "if it is 0 or less then, the house is out": 1 burns, 0 and less are out; its walls are as they were. */
    private static void heatOfNothing() {
        int[] powers = {4, 7, 8, 11, 12, 20};
        for (int power : powers) {
            FireEngines x = Towns.readyToPump(power, 5000, 1);
            x.light(0, 1);
            x.pass(1);
            boolean burns = power < 8;
            Check.same("state by " + power, x.house(0, 3), burns ? Towns.BURNS : Towns.OUT);
            Check.same("heat by " + power, x.house(0, 4), burns ? 1 : 0);
            Check.same("walls by " + power, x.house(0, 2), burns ? 59 : 60);
            Check.same("burning by " + power, x.count(2), burns ? 1 : 0);
            Check.same("out by " + power, x.count(3), burns ? 0 : 1);
        }
    }

    /** "Otherwise its walls are 1 and heat / 25 less", by the heat of this minute. */
    private static void heatOver25() {
        int[][] due = {{2, 1}, {24, 1}, {25, 2}, {49, 2}, {50, 3}, {74, 3}, {75, 4}, {98, 4}, {99, 4}};
        for (int[] d : due) {
            FireEngines x = new FireEngines();
            x.build(0, 0, 1, 60);
            x.light(0, d[0] - 1);
            x.pass(1);
            Check.same("heat", x.house(0, 4), d[0]);
            Check.same("walls by " + d[0], x.house(0, 2), 60 - d[1]);
        }
    }

    /** "but at least 0; with none left it has fallen, and burns no more": 5, 4, 3 and 1 by 4 less. */
    private static void wallsAtLeast0() {
        int[][] due = {{5, 1}, {4, 0}, {3, 0}, {1, 0}};
        for (int[] d : due) {
            FireEngines x = new FireEngines();
            x.build(0, 0, 1, d[0]);
            x.light(0, 90);
            x.pass(1);
            boolean fallen = d[1] == 0;
            Check.same("walls from " + d[0], x.house(0, 2), d[1]);
            Check.same("state", x.house(0, 3), fallen ? Towns.FALLEN : Towns.BURNS);
            Check.same("heat", x.house(0, 4), fallen ? 0 : 91);
            Check.same("fallen", x.count(4), fallen ? 1 : 0);
            x.pass(1);
            Check.same("no less than 0", x.house(0, 2), 0);
            Check.same("it has fallen once", x.count(4), 1);
        }
    }

    /** "the heat of each house that burns": water alone changes no house that is whole, out or fallen. */
    private static void waterOnOneThatDoesNotBurn() {
        int[] states = {Towns.WHOLE, Towns.OUT, Towns.FALLEN};
        for (int state : states) {
            FireEngines x = Towns.withHouse(state);
            int walls = x.house(0, 2);
            int inAll = x.house(0, 6);
            x.aim(0, 0);
            x.pass(2);
            Check.same("it came", x.house(0, 5) > 20, true);
            Check.same("more in all", x.house(0, 6) > inAll + x.house(0, 5), true);
            Check.same("state", x.house(0, 3), state);
            Check.same("heat", x.house(0, 4), 0);
            Check.same("walls", x.house(0, 2), walls);
        }
    }

    // ---- step 5

    /** "the heats of all burning ones near it, added, .. is at least 40": 39 and 40, of one and of eight. */
    private static void catchesAtForty() {
        for (int heat = 39; heat <= 41; heat++) {
            FireEngines x = new FireEngines();
            x.build(5, 5, 1, 60);
            x.build(6, 6, 1, 60);
            x.light(0, heat - 1);
            Check.same("by " + heat, x.pass(1), heat >= 40 ? 1 : 0);
            Check.same("state by " + heat, x.house(1, 3), heat >= 40 ? Towns.BURNS : Towns.WHOLE);
        }
        for (int first = 3; first <= 4; first++) {
            FireEngines x = new FireEngines();
            for (int i = 0; i < 9; i++) {
                x.build(4 + i % 3, 4 + i / 3, 1, 60);
            }
            for (int i = 0; i < 9; i++) {
                if (i != 4) {
                    x.light(i, i == 0 ? first : 4);
                }
            }
            Check.same("by eight, " + (first + 1) + " and seven times 5", x.pass(1), first == 4 ? 1 : 0);
        }
        FireEngines y = new FireEngines();
        y.build(5, 5, 1, 60);
        y.build(7, 5, 1, 60);
        y.build(5, 7, 1, 60);
        y.light(0, 99);
        Check.same("two away", y.pass(1), 0);
    }

    /** "less the water that came to it in this minute (all of it)". */
    private static void catchesLessTheWater() {
        for (int heat = 50; heat <= 52; heat++) {
            FireEngines x = Towns.readyToPump(11, 5000, 1);
            x.build(3, 0, 1, 60);
            x.light(1, heat - 1);
            Check.same("by " + heat + " less 11", x.pass(1), heat >= 51 ? 1 : 0);
            Check.same("water", x.house(0, 5), 11);
        }
        FireEngines y = Towns.readyToPump(11, 11, 1);
        y.build(3, 0, 1, 60);
        y.light(1, 48);
        Check.same("by 49 less 11", y.pass(1), 0);
        Check.same("by 50, and none came in this minute", y.pass(1), 1);
    }

    /** "burns then, with the heat 5": its walls and heat change from the next minute on. */
    private static void catchesWithFive() {
        FireEngines x = new FireEngines();
        x.build(5, 5, 1, 60);
        x.build(6, 5, 9, 1);
        x.light(0, 39);
        Check.same("it catches fire", x.pass(1), 1);
        Check.same("heat", x.house(1, 4), 5);
        Check.same("walls", x.house(1, 2), 1);
        Check.same("state", x.house(1, 3), Towns.BURNS);
        x.pass(1);
        Check.same("then it falls", x.house(1, 3), Towns.FALLEN);
    }

    /** "(all by how it is behind step 4)": without those that fell or were put out in it, or catch fire with it. */
    private static void catchesBehindStepFour() {
        FireEngines x = new FireEngines();
        x.build(5, 5, 1, 4);
        x.build(6, 5, 1, 60);
        x.light(0, 80);
        Check.same("it falls", x.pass(1), 0);
        FireEngines y = new FireEngines();
        y.build(5, 5, 1, 5);
        y.build(6, 5, 1, 60);
        y.light(0, 80);
        Check.same("it has walls of 1 yet", y.pass(1), 1);
        FireEngines z = Towns.readyToPump(20, 5000, 1);
        z.build(3, 0, 1, 60);
        z.build(3, 1, 1, 60);
        z.light(0, 4);
        z.light(1, 37);
        Check.same("put out: 38 alone is left", z.pass(1), 0);
        Check.same("it is out", z.house(0, 3), Towns.OUT);
        FireEngines row = new FireEngines();
        row.build(5, 5, 1, 60);
        row.build(6, 5, 1, 60);
        row.build(7, 5, 1, 60);
        row.build(6, 6, 1, 60);
        row.build(8, 5, 1, 60);
        row.light(4, 35);
        row.light(0, 39);
        Check.same("2 has 36 near it, and 5 of each that catches fire", row.pass(1), 2);
        Check.same("2 is whole", row.house(2, 3), Towns.WHOLE);
        Check.same("in the next minute it catches fire", row.pass(1), 1);
    }

    /** "each whole house": none that burns, is out or has fallen catches fire again. */
    private static void onlyWholeOnesCatch() {
        for (int state = Towns.WHOLE; state <= Towns.FALLEN; state++) {
            FireEngines x = Towns.withHouse(state);
            x.build(6, 5, 1, 60);
            x.light(1, 90);
            Check.same("one of state " + state, x.pass(1), state == Towns.WHOLE ? 1 : 0);
            int[] after = {Towns.BURNS, Towns.BURNS, Towns.OUT, Towns.FALLEN};
            Check.same("its state then", x.house(0, 3), after[state]);
            Check.same("its heat then", x.house(0, 4), new int[] {5, 21, 0, 0}[state]);
        }
    }

    // ---- step 6

    /** "The minute is 1 greater." */
    private static void theMinute() {
        FireEngines x = Towns.full();
        for (int i = 0; i < 100; i++) {
            Check.same("the minute", x.count(0), i);
            x.pass(1);
        }
        x.pass(100);
        Check.same("the minute", x.count(0), 200);
    }
}
