/** Promises 7 to 14: each sentence that names a boundary has a test of its own, with the sentence above it. */
public final class EnginesBoundsTest {
    private static final int MIN = Integer.MIN_VALUE;
    private static final int MAX = Integer.MAX_VALUE;

    private static final int[][] OUTSIDE = {
        {-1, 0}, {14, 0}, {0, -1}, {13, -1}, {-1, 9}, {14, 9}, {0, 10}, {13, 10},
        {-1, 1}, {28, -1}, {MIN, 0}, {MAX, 0}, {0, MIN}, {0, MAX}, {MAX, MAX}};

    /** Numbers of engines that one engine alone does not have. */
    private static final int[] OTHER_NUMBERS = {-1, 1, 6, 100, MIN, MAX};

    public static void main(String[] args) {
        engineOnTheEdges();
        engineWithHorses();
        engineWithPower();
        engineOnNoStreet();
        sixEngines();
        addEngineNamesTheFirstException();
        refusedEnginesChangeNothing();
        noSuchEngine();
        stokeWithCoal();
        stokeToTheMost();
        stokeFromNothing();
        stokeNamesTheFirstException();
        refusedStokesChangeNothing();
        driveToNoSuchCell();
        driveWhileItDrives();
        driveToWhereItIs();
        driveWithoutAWay();
        driveTheShortestAndTheLongestWay();
        driveAStepWithHorses();
        driveWithSeveral();
        driveNamesTheFirstException();
        refusedDrivesChangeNothing();
        relayToNoSuchEngine();
        relayWhileOneDrives();
        relaySixLong();
        relayInARing();
        relayNamesTheFirstException();
        refusedRelaysChangeNothing();
        aimAtNoSuchHouse();
        aimWhileItDrives();
        aimSixLong();
        aimAtAnyState();
        aimNamesTheFirstException();
        refusedAimsChangeNothing();
        takeUpNoneAndAll();
        engineWhat();
        engineAtItsLeastAndMost();
        engineHose();
        engineSucksFrom();
        engineGave();
        engineCanPump();
        pondNoSuchPond();
        pondFullAndEmpty();
        Check.end();
    }

    // ---- promise 7

    /** "Throws IndexOutOfBoundsException if there is no such cell". */
    private static void engineOnTheEdges() {
        FireEngines x = new FireEngines();
        for (int[] p : OUTSIDE) {
            Check.noIndex("an engine at " + p[0] + ", " + p[1], x, () -> x.addEngine(p[0], p[1], 1, 1));
        }
        int[][] corners = {{0, 0}, {13, 0}, {0, 9}, {13, 9}};
        for (int i = 0; i < 4; i++) {
            Check.same("in a corner", x.addEngine(corners[i][0], corners[i][1], 1, 1), i);
            Check.same("its cell", x.engine(i, 0), corners[i][0] + 14 * corners[i][1]);
        }
    }

    /** "Throws IllegalArgumentException if horses is not 1 to 4". */
    private static void engineWithHorses() {
        FireEngines x = new FireEngines();
        for (int horses : new int[] {0, 5, -1, MIN, MAX}) {
            Check.noArgument("horses " + horses, x, () -> x.addEngine(0, 0, horses, 1));
        }
        Check.same("1 horse", x.addEngine(0, 0, 1, 1), 0);
        Check.same("4 horses", x.addEngine(0, 0, 4, 1), 1);
        Check.same("its horses", x.engine(0, 1), 1);
        Check.same("its horses", x.engine(1, 1), 4);
    }

    /** "or power is not 1 to 20". */
    private static void engineWithPower() {
        FireEngines x = new FireEngines();
        for (int power : new int[] {0, 21, -1, MIN, MAX}) {
            Check.noArgument("power " + power, x, () -> x.addEngine(0, 0, 1, power));
        }
        Check.same("power 1", x.addEngine(0, 0, 1, 1), 0);
        Check.same("power 20", x.addEngine(0, 0, 1, 20), 1);
        Check.same("its power", x.engine(0, 2), 1);
        Check.same("its power", x.engine(1, 2), 20);
    }

    /** "Throws IllegalStateException if the cell is no street"; other engines are in nobody's way. */
    private static void engineOnNoStreet() {
        for (int state = Towns.WHOLE; state <= Towns.FALLEN; state++) {
            FireEngines x = Towns.withHouse(state);
            Check.noState("in a house of state " + state, x, () -> x.addEngine(5, 5, 1, 1));
            Check.noState("in a pond", x, () -> x.addEngine(3, 5, 1, 1));
            Check.same("by another one", x.addEngine(4, 5, 1, 1), 1);
            x.drive(1, 4, 6);
            Check.same("where one drives to", x.addEngine(4, 6, 1, 1), 2);
        }
    }

    /** "There are at most 6"; "or there are 6". */
    private static void sixEngines() {
        FireEngines x = new FireEngines();
        for (int i = 0; i < 5; i++) {
            x.addEngine(3, 3, 1, 1);
        }
        Check.same("5", x.count(6), 5);
        Check.same("the 6th", x.addEngine(13, 9, 4, 20), 5);
        Check.noState("the 7th", x, () -> x.addEngine(12, 9, 1, 1));
        Check.same("6", x.count(6), 6);
        Check.same("the last one's cell", x.engine(5, 0), 139);
    }

    /** "If several exceptions apply, the one that is named first is thrown." */
    private static void addEngineNamesTheFirstException() {
        FireEngines x = Towns.full();
        Check.noIndex("no cell, wrong horses, 6 engines", x, () -> x.addEngine(14, 0, 0, 1));
        Check.noIndex("no cell, wrong power, 6 engines", x, () -> x.addEngine(0, 10, 1, 21));
        Check.noIndex("no cell, 6 engines", x, () -> x.addEngine(-1, 0, 1, 1));
        Check.noArgument("wrong horses, 6 engines", x, () -> x.addEngine(13, 5, 5, 1));
        Check.noArgument("wrong power, 6 engines", x, () -> x.addEngine(13, 5, 1, 0));
        Check.noArgument("wrong horses in a house", x, () -> x.addEngine(0, 0, 0, 1));
        Check.noArgument("wrong power in a pond", x, () -> x.addEngine(0, 9, 1, 21));
        FireEngines y = new FireEngines();
        Check.noIndex("no cell, wrong horses and power", y, () -> y.addEngine(0, -1, 0, 0));
    }

    /** "A method that throws an exception changes nothing." */
    private static void refusedEnginesChangeNothing() {
        FireEngines x = Towns.withHouse(Towns.BURNS);
        Check.noIndex("no cell", x, () -> x.addEngine(14, 4, 1, 1));
        Check.noArgument("horses", x, () -> x.addEngine(9, 9, 5, 1));
        Check.noArgument("power", x, () -> x.addEngine(9, 9, 1, 21));
        Check.noState("a house", x, () -> x.addEngine(5, 5, 1, 1));
        Check.noState("a pond", x, () -> x.addEngine(3, 5, 1, 1));
        Check.same("engines on the street", x.cell(9, 9, 2), 0);
        Check.twins("engines", x, Towns.withHouse(Towns.BURNS));
        FireEngines full = Towns.full();
        Check.noState("a 7th", full, () -> full.addEngine(13, 5, 1, 1));
        Check.same("engines there", full.cell(13, 5, 2), 0);
        Check.twins("a 7th engine", full, Towns.full());
    }

    /** "Throws IndexOutOfBoundsException if there is no such engine", of all methods that take one. */
    private static void noSuchEngine() {
        FireEngines x = new FireEngines();
        x.build(1, 0, 1, 60);
        x.dig(0, 1, 100);
        noneOf(x, 0);
        x.addEngine(0, 0, 1, 1);
        for (int number : OTHER_NUMBERS) {
            noneOf(x, number);
        }
        FireEngines full = Towns.full();
        noneOf(full, 6);
        Check.same("stoke 5 of 6", full.stoke(5, 1), 61);
        Check.same("engine 5 of 6", full.engine(5, 0), 10 + 14 * 8);
        Check.same("weakest of 5 of 6", full.weakest(5), 5);
        Check.same("advise 5 of 6", full.advise(5, 1), -1);
        Check.same("relay 5 to 4 of 6", full.relay(5, 4), 2);
        Check.same("takeUp 5 of 6", full.takeUp(5), true);
        Check.same("drive 5 of 6", full.drive(5, 11, 8), 3);
    }

    private static void noneOf(FireEngines x, int number) {
        Check.noIndex("stoke " + number, x, () -> x.stoke(number, 1));
        Check.noIndex("drive " + number, x, () -> x.drive(number, 5, 5));
        Check.noIndex("relay " + number, x, () -> x.relay(number, 0));
        Check.noIndex("relay to " + number, x, () -> x.relay(0, number));
        Check.noIndex("aim " + number, x, () -> x.aim(number, 0));
        Check.noIndex("takeUp " + number, x, () -> x.takeUp(number));
        Check.noIndex("engine " + number, x, () -> x.engine(number, 0));
        Check.noIndex("weakest of " + number, x, () -> x.weakest(number));
        Check.noIndex("advise " + number, x, () -> x.advise(number, 1));
    }

    // ---- promise 8

    /** "Throws IllegalArgumentException if coal is not 1 to 100". */
    private static void stokeWithCoal() {
        FireEngines x = new FireEngines();
        x.addEngine(0, 0, 1, 1);
        x.addEngine(0, 0, 1, 1);
        for (int coal : new int[] {0, 101, -1, MIN, MAX}) {
            Check.noArgument("coal " + coal, x, () -> x.stoke(0, coal));
        }
        Check.same("60 at first", x.engine(0, 3), 60);
        Check.same("coal 1", x.stoke(0, 1), 61);
        Check.same("coal 100", x.stoke(1, 100), 160);
        Check.same("its coal", x.engine(1, 3), 160);
    }

    /** "Throws IllegalStateException if it would be more than 200". */
    private static void stokeToTheMost() {
        FireEngines x = new FireEngines();
        x.addEngine(0, 0, 1, 1);
        x.stoke(0, 100);
        Check.noState("to 260", x, () -> x.stoke(0, 100));
        Check.noState("to 201", x, () -> x.stoke(0, 41));
        Check.same("to 199", x.stoke(0, 39), 199);
        Check.noState("again to 201", x, () -> x.stoke(0, 2));
        Check.same("to 200", x.stoke(0, 1), 200);
        Check.noState("beyond 200", x, () -> x.stoke(0, 1));
        FireEngines y = new FireEngines();
        y.addEngine(0, 0, 1, 1);
        y.stoke(0, 100);
        y.pass(59);
        Check.noState("100 beside 101", y, () -> y.stoke(0, 100));
        y.pass(1);
        Check.same("100 beside 100", y.stoke(0, 100), 200);
    }

    /** "coal, 0 to 200": an engine without coal can be given some. */
    private static void stokeFromNothing() {
        FireEngines x = new FireEngines();
        x.addEngine(0, 0, 1, 1);
        x.pass(60);
        Check.same("no coal", x.engine(0, 3), 0);
        Check.same("1", x.stoke(0, 1), 1);
        x.pass(2);
        Check.same("no coal again", x.engine(0, 3), 0);
        Check.same("100", x.stoke(0, 100), 100);
    }

    /** "If several exceptions apply, the one that is named first is thrown." */
    private static void stokeNamesTheFirstException() {
        FireEngines x = new FireEngines();
        x.addEngine(0, 0, 1, 1);
        Check.noIndex("no engine, wrong coal", x, () -> x.stoke(1, 0));
        Check.noIndex("no engine, wrong coal", x, () -> x.stoke(-1, 101));
        x.stoke(0, 100);
        Check.noArgument("wrong coal, and more than 200", x, () -> x.stoke(0, 101));
        Check.noArgument("wrong coal, and more than an int", x, () -> x.stoke(0, MAX));
    }

    /** "A method that throws an exception changes nothing." */
    private static void refusedStokesChangeNothing() {
        FireEngines x = Towns.withHouse(Towns.BURNS);
        FireEngines y = Towns.withHouse(Towns.BURNS);
        x.stoke(0, 100);
        y.stoke(0, 100);
        Check.noIndex("no engine", x, () -> x.stoke(1, 1));
        Check.noArgument("coal", x, () -> x.stoke(0, 0));
        Check.noState("too much", x, () -> x.stoke(0, 100));
        Check.same("its coal", x.engine(0, 3), 156);
        Check.twins("stokes", x, y);
    }

    // ---- promise 9

    /** "Throws IndexOutOfBoundsException if there is no such engine or cell". */
    private static void driveToNoSuchCell() {
        FireEngines x = new FireEngines();
        x.addEngine(5, 5, 4, 1);
        for (int[] p : OUTSIDE) {
            Check.noIndex("drive to " + p[0] + ", " + p[1], x, () -> x.drive(0, p[0], p[1]));
        }
        int[][] corners = {{0, 0}, {13, 0}, {13, 9}, {0, 9}};
        int[] due = {10, 13, 9, 13};
        for (int i = 0; i < 4; i++) {
            Check.same("drive to a corner", x.drive(0, corners[i][0], corners[i][1]), due[i]);
            x.pass(due[i]);
            Check.same("its cell", x.engine(0, 0), corners[i][0] + 14 * corners[i][1]);
        }
    }

    /** "Throws IllegalStateException if it drives": until the last minute is over. */
    private static void driveWhileItDrives() {
        FireEngines x = new FireEngines();
        x.addEngine(0, 0, 3, 1);
        Check.same("one step", x.drive(0, 1, 0), 2);
        Check.noState("at once", x, () -> x.drive(0, 2, 0));
        Check.noState("to where it began", x, () -> x.drive(0, 0, 0));
        Check.noState("to its goal", x, () -> x.drive(0, 1, 0));
        x.pass(1);
        Check.noState("a minute before", x, () -> x.drive(0, 2, 0));
        x.pass(1);
        Check.same("it stands", x.drive(0, 0, 0), 2);
    }

    /** "is there already". */
    private static void driveToWhereItIs() {
        FireEngines x = new FireEngines();
        x.addEngine(7, 7, 4, 1);
        Check.noState("at first", x, () -> x.drive(0, 7, 7));
        x.drive(0, 8, 7);
        x.pass(1);
        Check.noState("behind a way", x, () -> x.drive(0, 8, 7));
        Check.same("back", x.drive(0, 7, 7), 1);
    }

    /** "or there is no way": "over street cells side by side". */
    private static void driveWithoutAWay() {
        FireEngines x = new FireEngines();
        x.addEngine(0, 0, 4, 1);
        x.build(1, 0, 1, 1);
        Check.same("round the house", x.drive(0, 2, 0), 4);
        x.pass(4);
        x.drive(0, 0, 0);
        x.pass(4);
        x.dig(0, 1, 0);
        Check.noState("corner to corner", x, () -> x.drive(0, 1, 1));
        Check.noState("far away", x, () -> x.drive(0, 13, 9));
        Check.noState("into the house beside it", x, () -> x.drive(0, 1, 0));
        Check.noState("into the pond beside it", x, () -> x.drive(0, 0, 1));
        x.addEngine(13, 9, 4, 1);
        Check.noState("into the corner", x, () -> x.drive(1, 0, 0));
        Check.same("beside the corner", x.drive(1, 1, 1), 20);
        FireEngines y = new FireEngines();
        y.addEngine(13, 0, 4, 1);
        for (int i = 0; i < 10; i++) {
            y.build(6, i, 1, 1);
        }
        Check.noState("a wall from edge to edge", y, () -> y.drive(0, 0, 0));
        Check.noState("nor to the next row's end", y, () -> y.drive(0, 0, 1));
        Check.same("to the wall", y.drive(0, 7, 0), 6);
    }

    /** "by the fewest steps; a step takes 5 less its horses minutes": one step, and 58 between walls. */
    private static void driveTheShortestAndTheLongestWay() {
        FireEngines x = new FireEngines();
        for (int i = 0; i < 36; i++) {
            int wall = i / 9;
            int y = wall % 2 == 0 ? i % 9 : 1 + i % 9;
            if (i < 30) {
                x.build(1 + 2 * wall, y, 1, 1);
            } else {
                x.dig(1 + 2 * wall, y, 0);
            }
        }
        x.addEngine(0, 0, 1, 1);
        Check.same("to and fro between four walls", x.drive(0, 13, 9), 58 * 4);
        x.pass(100);
        x.pass(100);
        x.pass(31);
        Check.same("a minute before", x.engine(0, 0), 0);
        Check.same("a minute yet", x.engine(0, 5), 1);
        x.pass(1);
        Check.same("there", x.engine(0, 0), 139);
        Check.same("it stands", x.engine(0, 5), 0);
        Check.same("one step", x.drive(0, 12, 9), 4);
    }

    /** "horses, 1 to 4": 4, 3, 2 and 1 minutes a step. */
    private static void driveAStepWithHorses() {
        for (int horses = 1; horses <= 4; horses++) {
            FireEngines x = new FireEngines();
            x.addEngine(0, 0, horses, 1);
            Check.same("a step with " + horses, x.drive(0, 0, 1), 5 - horses);
            for (int left = 5 - horses; left > 0; left--) {
                Check.same("minutes yet", x.engine(0, 5), left);
                Check.same("counts as where it began", x.engine(0, 0), 0);
                x.pass(1);
            }
            Check.same("minutes yet", x.engine(0, 5), 0);
            Check.same("there", x.engine(0, 0), 14);
        }
    }

    /** "When an engine sets out, its hose, and those that go to it, are taken up": none, and all six. */
    private static void driveWithSeveral() {
        FireEngines x = new FireEngines();
        x.build(4, 4, 1, 1);
        for (int i = 0; i < 6; i++) {
            x.addEngine(3, 4, 4, 1);
        }
        for (int i = 1; i < 6; i++) {
            x.relay(i, 0);
        }
        x.aim(0, 0);
        x.drive(0, 3, 5);
        for (int i = 0; i < 6; i++) {
            Check.same("hose of " + i, x.engine(i, 6), -1);
        }
        x.relay(1, 2);
        x.relay(2, 3);
        x.relay(4, 3);
        x.aim(3, 0);
        x.drive(2, 3, 5);
        Check.same("to the one that set out", x.engine(1, 6), -1);
        Check.same("its own", x.engine(2, 6), -1);
        Check.same("of the one behind it", x.engine(3, 6), 100);
        Check.same("of another one to that", x.engine(4, 6), 3);
    }

    /** "If several exceptions apply, the one that is named first is thrown." */
    private static void driveNamesTheFirstException() {
        FireEngines x = new FireEngines();
        x.addEngine(0, 0, 1, 1);
        Check.noIndex("no engine, no cell", x, () -> x.drive(1, 14, 0));
        x.drive(0, 1, 0);
        Check.noIndex("no cell, it drives", x, () -> x.drive(0, 0, 10));
        Check.noIndex("no engine, while one drives", x, () -> x.drive(1, 0, 0));
    }

    /** "A method that throws an exception changes nothing": not a hose, not the goal. */
    private static void refusedDrivesChangeNothing() {
        FireEngines x = Towns.withHouse(Towns.BURNS);
        FireEngines y = Towns.withHouse(Towns.BURNS);
        for (FireEngines z : new FireEngines[] {x, y}) {
            z.addEngine(4, 6, 2, 9);
            z.addEngine(8, 8, 1, 9);
            z.relay(1, 0);
            z.aim(0, 0);
            z.drive(2, 10, 8);
            z.pass(3);
        }
        Check.noIndex("no engine", x, () -> x.drive(3, 0, 0));
        Check.noIndex("no cell", x, () -> x.drive(0, 14, 0));
        Check.noState("is there", x, () -> x.drive(0, 4, 5));
        Check.noState("a house", x, () -> x.drive(0, 5, 5));
        Check.noState("a pond", x, () -> x.drive(1, 3, 5));
        Check.noState("it drives", x, () -> x.drive(2, 0, 0));
        Check.noState("it drives", x, () -> x.drive(2, 8, 8));
        Check.same("a hose", x.engine(0, 6), 100);
        Check.same("a hose to it", x.engine(1, 6), 0);
        Check.twins("drives", x, y);
        Check.same("it came to its goal", x.engine(2, 0), 10 + 14 * 8);
    }

    // ---- promise 10

    /** "Throws IndexOutOfBoundsException if there is no such engine": the one or the other. */
    private static void relayToNoSuchEngine() {
        FireEngines x = new FireEngines();
        x.addEngine(0, 0, 1, 1);
        x.addEngine(1, 0, 1, 1);
        x.build(2, 0, 1, 1);
        for (int number : new int[] {-1, 2, 100, MIN, MAX}) {
            Check.noIndex("relay(0, " + number + ")", x, () -> x.relay(0, number));
            Check.noIndex("relay(" + number + ", 0)", x, () -> x.relay(number, 0));
            Check.noIndex("relay to itself, of none", x, () -> x.relay(number, number));
        }
        Check.same("relay(0, 1)", x.relay(0, 1), 1);
    }

    /** "Throws IllegalStateException if one of both drives": until the last minute is over. */
    private static void relayWhileOneDrives() {
        FireEngines x = new FireEngines();
        x.addEngine(0, 0, 3, 1);
        x.addEngine(2, 0, 1, 1);
        x.drive(0, 1, 0);
        Check.noState("it drives", x, () -> x.relay(0, 1));
        Check.noState("the other drives", x, () -> x.relay(1, 0));
        x.pass(1);
        Check.noState("a minute before, it drives", x, () -> x.relay(0, 1));
        Check.noState("a minute before, the other drives", x, () -> x.relay(1, 0));
        x.pass(1);
        Check.same("it stands", x.relay(0, 1), 1);
        x.takeUp(0);
        Check.same("the other stands", x.relay(1, 0), 1);
    }

    /** "it is too far away"; "it is at most 6 long"; "the difference of the columns and that of the rows, added". */
    private static void relaySixLong() {
        for (int columns = 0; columns <= 8; columns++) {
            for (int rows = 0; rows <= 8; rows++) {
                FireEngines x = new FireEngines();
                x.addEngine(1 + columns, 1, 1, 1);
                x.addEngine(1, 1 + rows, 1, 1);
                int length = columns + rows;
                if (length <= 6) {
                    Check.same("relay", x.relay(0, 1), length);
                    x.takeUp(0);
                    Check.same("the other way", x.relay(1, 0), length);
                } else {
                    Check.noState("relay over " + length, x, () -> x.relay(0, 1));
                    Check.noState("the other way over " + length, x, () -> x.relay(1, 0));
                }
            }
        }
        FireEngines y = new FireEngines();
        y.addEngine(13, 0, 1, 1);
        y.addEngine(0, 1, 1, 1);
        Check.noState("not round the edge", y, () -> y.relay(0, 1));
    }

    /** "or its own water would come back (also if both are the same)": rings of one to all six. */
    private static void relayInARing() {
        for (int engines = 1; engines <= 6; engines++) {
            FireEngines x = new FireEngines();
            int last = engines - 1;
            for (int i = 0; i < 6; i++) {
                x.addEngine(6, 6, 1, 1);
            }
            for (int i = 0; i < last; i++) {
                Check.same("a row of " + engines, x.relay(i, i + 1), 0);
            }
            for (int i = 0; i <= last; i++) {
                int back = i;
                Check.noState("the last of " + engines + " back to " + i, x, () -> x.relay(last, back));
            }
            if (engines < 6) {
                Check.same("to one that gives none", x.relay(last, 5), 0);
            }
        }
        FireEngines y = new FireEngines();
        for (int i = 0; i < 6; i++) {
            y.addEngine(6, 6, 1, 1);
        }
        for (int i = 5; i > 0; i--) {
            Check.same("a row from behind", y.relay(i, i - 1), 0);
        }
        Check.noState("the first back to the last", y, () -> y.relay(0, 5));
        Check.same("in the place of its own hose", y.relay(3, 1), 0);
        Check.same("the ring is open now", y.relay(2, 3), 0);
        Check.noState("a ring by the new one", y, () -> y.relay(1, 2));
    }

    /** "If several exceptions apply, the one that is named first is thrown." */
    private static void relayNamesTheFirstException() {
        FireEngines x = new FireEngines();
        x.addEngine(0, 0, 1, 1);
        x.addEngine(9, 9, 1, 1);
        x.drive(0, 1, 0);
        Check.noIndex("it drives, no other engine", x, () -> x.relay(0, 2));
        Check.noIndex("no engine, the other drives", x, () -> x.relay(2, 0));
        Check.noState("it drives, too far away", x, () -> x.relay(0, 1));
        Check.noState("it drives, to itself", x, () -> x.relay(0, 0));
    }

    /** "A method that throws an exception changes nothing": the hose that it had stays. */
    private static void refusedRelaysChangeNothing() {
        FireEngines x = Towns.withHouse(Towns.BURNS);
        FireEngines y = Towns.withHouse(Towns.BURNS);
        for (FireEngines z : new FireEngines[] {x, y}) {
            z.addEngine(4, 6, 2, 9);
            z.addEngine(11, 6, 1, 9);
            z.addEngine(4, 6, 1, 9);
            z.relay(1, 0);
            z.aim(0, 0);
            z.drive(3, 9, 6);
        }
        Check.noIndex("no engine", x, () -> x.relay(4, 0));
        Check.noIndex("no other", x, () -> x.relay(0, 4));
        Check.noState("it would come back", x, () -> x.relay(0, 1));
        Check.noState("to itself", x, () -> x.relay(1, 1));
        Check.noState("too far away", x, () -> x.relay(1, 2));
        Check.noState("the other drives", x, () -> x.relay(1, 3));
        Check.noState("it drives", x, () -> x.relay(3, 1));
        Check.same("the hose that it had", x.engine(1, 6), 0);
        Check.same("the hose to the house", x.engine(0, 6), 100);
        Check.twins("relays", x, y);
    }

    // ---- promise 11

    /** "Throws IndexOutOfBoundsException if there is no such engine or house". */
    private static void aimAtNoSuchHouse() {
        FireEngines x = new FireEngines();
        x.addEngine(0, 0, 1, 1);
        x.addEngine(0, 0, 1, 1);
        Check.noIndex("none built", x, () -> x.aim(0, 0));
        x.build(1, 0, 1, 1);
        for (int house : new int[] {-1, 1, 100, MIN, MAX, MAX - 99}) {
            Check.noIndex("aim at " + house, x, () -> x.aim(0, house));
        }
        Check.same("house 0 of one", x.aim(0, 0), 1);
        FireEngines full = Towns.full();
        Check.noIndex("house 30 of 30", full, () -> full.aim(0, 30));
        Check.same("house 28 of 30", full.aim(0, 28), 6);
        full.drive(0, 1, 8);
        full.pass(4);
        Check.same("house 29 of 30", full.aim(0, 29), 6);
        Check.same("where it goes", full.engine(0, 6), 129);
    }

    /** "Throws IllegalStateException if it drives": until the last minute is over. */
    private static void aimWhileItDrives() {
        FireEngines x = new FireEngines();
        x.addEngine(0, 0, 3, 1);
        x.build(2, 0, 1, 1);
        x.drive(0, 1, 0);
        Check.noState("at once", x, () -> x.aim(0, 0));
        x.pass(1);
        Check.noState("a minute before", x, () -> x.aim(0, 0));
        x.pass(1);
        Check.same("it stands", x.aim(0, 0), 1);
    }

    /** "or it is too far away"; "it is at most 6 long". */
    private static void aimSixLong() {
        for (int columns = 0; columns <= 8; columns++) {
            for (int rows = 0; rows <= 8; rows++) {
                FireEngines x = new FireEngines();
                int length = columns + rows;
                if (length > 0) {
                    x.addEngine(1 + columns, 1, 1, 1);
                    x.build(1, 1 + rows, 1, 1);
                }
                if (length > 6) {
                    Check.noState("aim over " + length, x, () -> x.aim(0, 0));
                } else if (length > 0) {
                    Check.same("aim", x.aim(0, 0), length);
                }
            }
        }
        FireEngines y = new FireEngines();
        y.addEngine(13, 0, 1, 1);
        y.build(0, 1, 1, 1);
        Check.noState("not round the edge", y, () -> y.aim(0, 0));
    }

    /** "A hose goes .. to a house": in any state, and in the place of the one that the engine had. */
    private static void aimAtAnyState() {
        for (int state = Towns.WHOLE; state <= Towns.FALLEN; state++) {
            FireEngines x = Towns.withHouse(state);
            Check.same("aim at one of state " + state, x.aim(0, 0), 1);
            Check.same("once more", x.aim(0, 0), 1);
            x.build(4, 2, 1, 1);
            Check.same("at another one", x.aim(0, 1), 3);
            Check.same("it has one hose out", x.engine(0, 6), 101);
        }
    }

    /** "If several exceptions apply, the one that is named first is thrown." */
    private static void aimNamesTheFirstException() {
        FireEngines x = new FireEngines();
        x.addEngine(0, 0, 1, 1);
        x.build(9, 9, 1, 1);
        Check.noIndex("no engine, no house", x, () -> x.aim(1, 1));
        x.drive(0, 1, 0);
        Check.noIndex("no house, it drives", x, () -> x.aim(0, 1));
        Check.noIndex("no engine, too far away", x, () -> x.aim(1, 0));
        Check.noState("it drives, too far away", x, () -> x.aim(0, 0));
    }

    /** "A method that throws an exception changes nothing": the hose that it had stays. */
    private static void refusedAimsChangeNothing() {
        FireEngines x = Towns.withHouse(Towns.BURNS);
        FireEngines y = Towns.withHouse(Towns.BURNS);
        for (FireEngines z : new FireEngines[] {x, y}) {
            z.build(11, 5, 1, 1);
            z.addEngine(4, 6, 1, 9);
            z.aim(0, 0);
            z.drive(1, 9, 6);
        }
        Check.noIndex("no engine", x, () -> x.aim(2, 0));
        Check.noIndex("no house", x, () -> x.aim(0, 2));
        Check.noState("too far away", x, () -> x.aim(0, 1));
        Check.noState("it drives", x, () -> x.aim(1, 0));
        Check.same("the hose that it had", x.engine(0, 6), 100);
        Check.twins("aims", x, y);
    }

    // ---- promise 12

    /** "Returns whether it had one": none, one to an engine, one to a house, and while it drives. */
    private static void takeUpNoneAndAll() {
        FireEngines x = Towns.full();
        for (int i = 0; i < 6; i++) {
            Check.same("none", x.takeUp(i), false);
        }
        for (int i = 1; i < 6; i++) {
            x.relay(i, i - 1);
        }
        x.aim(0, 28);
        for (int i = 0; i < 6; i++) {
            Check.same("one", x.takeUp(i), true);
            Check.same("it is up", x.engine(i, 6), -1);
            Check.same("not twice", x.takeUp(i), false);
            Check.same("the next one's stays", i == 5 || x.engine(i + 1, 6) != -1, true);
        }
        x.relay(1, 0);
        x.drive(0, 1, 8);
        Check.same("while it drives", x.takeUp(0), false);
        Check.same("the one to it was taken up", x.takeUp(1), false);
    }

    // ---- promise 13

    /** "or what is not 0 to 9". */
    private static void engineWhat() {
        FireEngines x = Towns.full();
        for (int what : new int[] {-1, 10, MIN, MAX}) {
            Check.noIndex("engine(0, " + what + ")", x, () -> x.engine(0, what));
            Check.noIndex("engine(5, " + what + ")", x, () -> x.engine(5, what));
        }
        Check.same("what 0", x.engine(5, 0), 10 + 14 * 8);
        Check.same("what 9", x.engine(5, 9), 0);
    }

    /** "coal, 0 to 200 (60, at first), and steam, 0 to 100 (0, at first). It stands". */
    private static void engineAtItsLeastAndMost() {
        FireEngines x = new FireEngines();
        x.addEngine(0, 0, 1, 1);
        x.addEngine(13, 9, 4, 20);
        int[] first = {0, 1, 1, 60, 0, 0, -1, -1, 0, 0};
        int[] last = {139, 4, 20, 60, 0, 0, -1, -1, 0, 0};
        for (int what = 0; what <= 9; what++) {
            Check.same("engine(0, " + what + ")", x.engine(0, what), first[what]);
            Check.same("engine(1, " + what + ")", x.engine(1, what), last[what]);
        }
        x.pass(60);
        Check.same("least coal", x.engine(0, 3), 0);
        Check.same("most steam", x.engine(0, 4), 100);
        x.pass(100);
        Check.same("no less coal", x.engine(0, 3), 0);
        Check.same("least steam", x.engine(0, 4), 0);
    }

    /** "6 where its hose goes: -1 nowhere, the number of the engine, or 100 and that of the house". */
    private static void engineHose() {
        FireEngines x = Towns.full();
        Check.same("nowhere", x.engine(1, 6), -1);
        x.relay(1, 0);
        Check.same("to engine 0", x.engine(1, 6), 0);
        x.relay(4, 5);
        Check.same("to engine 5", x.engine(4, 6), 5);
        x.aim(0, 28);
        Check.same("to house 28", x.engine(0, 6), 128);
        x.drive(3, 7, 5);
        x.pass(100);
        x.aim(3, 7);
        Check.same("to house 7", x.engine(3, 6), 107);
        x.drive(3, 0, 3);
        x.pass(100);
        x.aim(3, 0);
        Check.same("to house 0", x.engine(3, 6), 100);
        x.aim(3, 29);
        Check.same("to house 29", x.engine(3, 6), 129);
    }

    /** "7 the pond from which it can suck, -1 if from none (or it drives)"; "if one is near it". */
    private static void engineSucksFrom() {
        FireEngines x = new FireEngines();
        x.addEngine(5, 5, 4, 1);
        int[][] twoAway = {{3, 5}, {7, 5}, {5, 3}, {5, 7}, {7, 7}};
        for (int[] p : twoAway) {
            x.dig(p[0], p[1], 5000);
            Check.same("two away", x.engine(0, 7), -1);
        }
        x.dig(6, 6, 0);
        Check.same("the last pond, at a corner", x.engine(0, 7), 5);
        x.drive(0, 6, 5);
        Check.same("it drives", x.engine(0, 7), -1);
        x.pass(1);
        Check.same("of 1, 4 and 5", x.engine(0, 7), 1);
        for (int way = 0; way < 9; way++) {
            if (way != 4) {
                FireEngines y = new FireEngines();
                y.addEngine(5, 5, 4, 1);
                y.dig(4 + way % 3, 4 + way / 3, 1);
                Check.same("near on side " + way, y.engine(0, 7), 0);
            }
        }
    }

    /** "8 what it gave into its hose in the latest minute": 0 before one, the most is 100. */
    private static void engineGave() {
        FireEngines x = Towns.readyToPump(20, 5000, 1);
        Check.same("nothing yet", x.engine(0, 8), 0);
        x.pass(1);
        Check.same("20 * 20 / 20", x.engine(0, 8), 20);
        x.takeUp(0);
        x.pass(22);
        Check.same("steam", x.engine(0, 4), 100);
        x.aim(0, 0);
        x.pass(1);
        Check.same("20 * 100 / 20", x.engine(0, 8), 100);
        x.drive(0, 1, 1);
        Check.same("told until the next minute", x.engine(0, 8), 100);
        x.pass(1);
        Check.same("none in it", x.engine(0, 8), 0);
    }

    /** "9 what it can pump now, 0 if it drives or has less steam than 20": 19, 20 and 100. */
    private static void engineCanPump() {
        FireEngines x = new FireEngines();
        x.addEngine(0, 0, 4, 1);
        x.addEngine(0, 0, 4, 20);
        x.pass(4);
        Check.same("steam 16", x.engine(1, 9), 0);
        x.pass(1);
        Check.same("power 1, steam 20", x.engine(0, 9), 1);
        Check.same("power 20, steam 20", x.engine(1, 9), 20);
        x.pass(4);
        Check.same("power 1, steam 36: cut", x.engine(0, 9), 1);
        x.pass(1);
        Check.same("power 1, steam 40", x.engine(0, 9), 2);
        x.pass(50);
        Check.same("power 1, steam 100", x.engine(0, 9), 5);
        Check.same("power 20, steam 100", x.engine(1, 9), 100);
        x.pass(26);
        Check.same("steam 22", x.engine(1, 4), 22);
        Check.same("power 20, steam 22", x.engine(1, 9), 22);
        x.drive(0, 0, 1);
        Check.same("it drives", x.engine(0, 9), 0);
        x.pass(1);
        Check.same("steam 19", x.engine(1, 4), 19);
        Check.same("power 20, steam 19", x.engine(1, 9), 0);
    }

    // ---- promise 14

    /** "Throws IndexOutOfBoundsException if there is no such pond". */
    private static void pondNoSuchPond() {
        FireEngines x = new FireEngines();
        x.build(0, 0, 1, 1);
        Check.noIndex("0 of none", x, () -> x.pond(0));
        x.dig(1, 0, 7);
        for (int pond : new int[] {-1, 1, MIN, MAX}) {
            Check.noIndex("pond " + pond, x, () -> x.pond(pond));
        }
        Check.same("0 of one", x.pond(0), 7);
        FireEngines full = Towns.full();
        Check.noIndex("6 of 6", full, () -> full.pond(6));
        Check.same("5 of 6", full.pond(5), 5000);
    }

    /** "Ponds .. each with water, 0 to 5000": never less than 0, and none comes back. */
    private static void pondFullAndEmpty() {
        FireEngines x = Towns.readyToPump(20, 5000, 1);
        x.pass(1);
        Check.same("20 less", x.pond(0), 4980);
        FireEngines y = Towns.readyToPump(20, 19, 1);
        y.pass(1);
        Check.same("the last water", y.pond(0), 0);
        Check.same("19 of it", y.house(0, 5), 19);
        y.pass(1);
        Check.same("no less than 0", y.pond(0), 0);
        Check.same("nothing from it", y.house(0, 5), 0);
    }
}
