/** Promises 1 to 6: each sentence that names a boundary has a test of its own, with the sentence above it. */
public final class TownBoundsTest {
    private static final int MIN = Integer.MIN_VALUE;
    private static final int MAX = Integer.MAX_VALUE;

    /** The cells just outside the town, beside its corners, and far away. */
    private static final int[][] OUTSIDE = {
        {-1, 0}, {14, 0}, {0, -1}, {13, -1}, {-1, 9}, {14, 9}, {0, 10}, {13, 10}, {-1, -1}, {14, 10},
        {-1, 1}, {28, -1}, {MIN, 0}, {MAX, 0}, {0, MIN}, {0, MAX}, {MAX, MAX}, {MIN, MIN}};

    public static void main(String[] args) {
        nothingBuiltYet();
        buildOnTheEdges();
        buildWithWood();
        buildWithWalls();
        buildOnNoStreet();
        buildWhereAnEngineIs();
        buildWhereAnEngineDrivesTo();
        buildThirty();
        buildNamesTheFirstException();
        refusedBuildsChangeNothing();
        digOnTheEdges();
        digWithWater();
        digOnNoStreet();
        digWhereAnEngineIsOrDrivesTo();
        digSix();
        digNamesTheFirstException();
        refusedDigsChangeNothing();
        lightNoSuchHouse();
        lightWithHeat();
        lightOneThatIsNotWhole();
        lightAsManyAsThereCanBe();
        lightNamesTheFirstException();
        refusedLightsChangeNothing();
        cellOnTheEdges();
        cellWhat();
        cellNumbersUpToTheLast();
        cellEnginesNoneAndAll();
        cellHeatsNoneAndAll();
        cellHeatsAtTheEdges();
        houseNoSuchHouse();
        houseWhat();
        houseAtItsLeastAndMost();
        Check.end();
    }

    /** "Creates a town of streets alone, at the minute 0." */
    private static void nothingBuiltYet() {
        FireEngines x = new FireEngines();
        FireEngines y = new FireEngines();
        for (int what = 0; what <= 9; what++) {
            Check.same("count(" + what + ")", x.count(what), 0);
        }
        Check.noIndex("light", x, () -> x.light(0, 1));
        Check.noIndex("house", x, () -> x.house(0, 0));
        Check.noIndex("stoke", x, () -> x.stoke(0, 1));
        Check.noIndex("drive", x, () -> x.drive(0, 0, 0));
        Check.noIndex("relay", x, () -> x.relay(0, 0));
        Check.noIndex("aim", x, () -> x.aim(0, 0));
        Check.noIndex("takeUp", x, () -> x.takeUp(0));
        Check.noIndex("engine", x, () -> x.engine(0, 0));
        Check.noIndex("pond", x, () -> x.pond(0));
        Check.noIndex("weakest", x, () -> x.weakest(0));
        Check.noIndex("advise", x, () -> x.advise(0, 1));
        Check.same("foresee", x.foresee(100, 0) + x.foresee(100, 1) + x.foresee(100, 2), 0);
        Check.same("lasts", x.lasts(), 0);
        Check.same("walls", x.walls(), 0.0);
        Check.twins("an empty town", x, y);
        Check.same("the minute behind 1, 7 and 100", x.count(0), 108);
    }

    // ---- promise 2

    /** "if there is no such cell"; "14 columns, x, 0 to 13, and 10 rows, y, 0 to 9: the cell x + 14 * y". */
    private static void buildOnTheEdges() {
        FireEngines x = new FireEngines();
        for (int[] p : OUTSIDE) {
            Check.noIndex("build at " + p[0] + ", " + p[1], x, () -> x.build(p[0], p[1], 1, 1));
        }
        int[][] corners = {{0, 0}, {13, 0}, {0, 9}, {13, 9}};
        for (int i = 0; i < 4; i++) {
            Check.same("build in a corner", x.build(corners[i][0], corners[i][1], 1, 1), i);
            Check.same("its cell", x.house(i, 0), corners[i][0] + 14 * corners[i][1]);
        }
    }

    /** "Throws IllegalArgumentException if wood is not 1 to 9". */
    private static void buildWithWood() {
        FireEngines x = new FireEngines();
        for (int wood : new int[] {0, 10, -1, MIN, MAX}) {
            Check.noArgument("build of wood " + wood, x, () -> x.build(0, 0, wood, 1));
        }
        Check.same("wood 1", x.build(0, 0, 1, 1), 0);
        Check.same("wood 9", x.build(1, 0, 9, 1), 1);
        Check.same("its wood", x.house(0, 1), 1);
        Check.same("its wood", x.house(1, 1), 9);
    }

    /** "or walls is not 1 to 60". */
    private static void buildWithWalls() {
        FireEngines x = new FireEngines();
        for (int walls : new int[] {0, 61, -1, MIN, MAX}) {
            Check.noArgument("build with walls " + walls, x, () -> x.build(0, 0, 1, walls));
        }
        Check.same("walls 1", x.build(0, 0, 1, 1), 0);
        Check.same("walls 60", x.build(1, 0, 1, 60), 1);
        Check.same("its walls", x.house(0, 2), 1);
        Check.same("its walls", x.house(1, 2), 60);
    }

    /** "Throws IllegalStateException if the cell is no street": a pond, or a house in any state. */
    private static void buildOnNoStreet() {
        for (int state = Towns.WHOLE; state <= Towns.FALLEN; state++) {
            FireEngines x = Towns.withHouse(state);
            Check.noState("build on a house of state " + state, x, () -> x.build(5, 5, 1, 1));
            Check.noState("build on a pond", x, () -> x.build(3, 5, 1, 1));
            Check.same("build beside them", x.build(6, 5, 1, 1), 1);
        }
    }

    /** "an engine is there"; "counts as where it began until then". */
    private static void buildWhereAnEngineIs() {
        FireEngines x = new FireEngines();
        x.addEngine(5, 5, 4, 1);
        Check.noState("build where it stands", x, () -> x.build(5, 5, 1, 1));
        x.drive(0, 7, 5);
        Check.noState("build where it set out", x, () -> x.build(5, 5, 1, 1));
        x.pass(1);
        Check.noState("a minute before it is there", x, () -> x.build(5, 5, 1, 1));
        x.pass(1);
        Check.noState("build where it came to", x, () -> x.build(7, 5, 1, 1));
        Check.same("build where it was", x.build(5, 5, 1, 1), 0);
    }

    /** "(or drives there)". */
    private static void buildWhereAnEngineDrivesTo() {
        FireEngines x = new FireEngines();
        x.addEngine(5, 5, 4, 1);
        x.drive(0, 7, 5);
        Check.noState("build where it drives to", x, () -> x.build(7, 5, 1, 1));
        Check.noState("a refused drive", x, () -> x.drive(0, 9, 9));
        Check.same("build where it was not let drive to", x.build(9, 9, 1, 1), 0);
        Check.noState("its goal is the first one yet", x, () -> x.build(7, 5, 1, 1));
        Check.same("build on the way", x.build(6, 5, 1, 1), 1);
        x.pass(2);
        x.drive(0, 8, 5);
        x.pass(1);
        Check.same("its former goal is free", x.build(7, 5, 1, 1), 2);
    }

    /** "There are at most 30"; "or there are 30". */
    private static void buildThirty() {
        FireEngines x = new FireEngines();
        for (int i = 0; i < 29; i++) {
            x.build(i % 14, i / 14, 1, 1);
        }
        Check.same("29", x.count(1), 29);
        Check.same("the 30th", x.build(13, 9, 9, 60), 29);
        Check.noState("the 31st", x, () -> x.build(12, 9, 1, 1));
        x.light(0, 99);
        x.pass(1);
        Check.same("one has fallen", x.count(4), 1);
        Check.noState("a fallen one gives no room", x, () -> x.build(12, 9, 1, 1));
        Check.same("30", x.count(1), 30);
        Check.same("the last one's cell", x.house(29, 0), 139);
    }

    /** "If several exceptions apply, the one that is named first is thrown." */
    private static void buildNamesTheFirstException() {
        FireEngines x = Towns.full();
        Check.noIndex("no cell, wrong wood, 30 houses", x, () -> x.build(14, 0, 0, 1));
        Check.noIndex("no cell, wrong walls, 30 houses", x, () -> x.build(0, 10, 1, 61));
        Check.noIndex("no cell, 30 houses", x, () -> x.build(-1, 0, 1, 1));
        Check.noArgument("wrong wood, 30 houses", x, () -> x.build(13, 5, 10, 1));
        Check.noArgument("wrong walls, 30 houses", x, () -> x.build(13, 5, 1, 0));
        Check.noArgument("wrong wood on a house", x, () -> x.build(0, 0, 0, 1));
        Check.noArgument("wrong walls on a pond", x, () -> x.build(0, 9, 1, 61));
        Check.noArgument("wrong wood on an engine", x, () -> x.build(0, 8, 0, 61));
        FireEngines y = new FireEngines();
        Check.noIndex("no cell, wrong wood", y, () -> y.build(14, 9, 10, 0));
    }

    /** "A method that throws an exception changes nothing." */
    private static void refusedBuildsChangeNothing() {
        FireEngines x = Towns.withHouse(Towns.BURNS);
        FireEngines y = Towns.withHouse(Towns.BURNS);
        Check.noIndex("no cell", x, () -> x.build(14, 4, 1, 1));
        Check.noArgument("wood", x, () -> x.build(9, 9, 10, 1));
        Check.noArgument("walls", x, () -> x.build(9, 9, 1, 61));
        Check.noState("a house", x, () -> x.build(5, 5, 9, 9));
        Check.noState("a pond", x, () -> x.build(3, 5, 9, 9));
        Check.noState("an engine", x, () -> x.build(4, 5, 9, 9));
        Check.twins("builds", x, y);
        FireEngines full = Towns.full();
        Check.noState("a 31st", full, () -> full.build(13, 5, 1, 1));
        Check.twins("a 31st house", full, Towns.full());
    }

    // ---- promise 3

    /** "Throws IndexOutOfBoundsException if there is no such cell". */
    private static void digOnTheEdges() {
        FireEngines x = new FireEngines();
        for (int[] p : OUTSIDE) {
            Check.noIndex("dig at " + p[0] + ", " + p[1], x, () -> x.dig(p[0], p[1], 1));
        }
        int[][] corners = {{0, 0}, {13, 0}, {0, 9}, {13, 9}};
        for (int i = 0; i < 4; i++) {
            Check.same("dig in a corner", x.dig(corners[i][0], corners[i][1], 1), i);
            Check.same("its number", x.cell(corners[i][0], corners[i][1], 1), i);
        }
    }

    /** "Throws IllegalArgumentException if water is not 0 to 5000". */
    private static void digWithWater() {
        FireEngines x = new FireEngines();
        for (int water : new int[] {-1, 5001, MIN, MAX}) {
            Check.noArgument("dig with " + water, x, () -> x.dig(0, 0, water));
        }
        Check.same("water 0", x.dig(0, 0, 0), 0);
        Check.same("water 5000", x.dig(1, 0, 5000), 1);
        Check.same("its water", x.pond(0), 0);
        Check.same("its water", x.pond(1), 5000);
    }

    /** "Throws IllegalStateException if the cell is no street". */
    private static void digOnNoStreet() {
        for (int state = Towns.WHOLE; state <= Towns.FALLEN; state++) {
            FireEngines x = Towns.withHouse(state);
            Check.noState("dig on a house of state " + state, x, () -> x.dig(5, 5, 1));
            Check.noState("dig on a pond", x, () -> x.dig(3, 5, 1));
            Check.same("dig beside them", x.dig(6, 5, 1), 1);
        }
        FireEngines x = new FireEngines();
        x.dig(0, 0, 0);
        Check.noState("dig on an empty pond", x, () -> x.dig(0, 0, 1));
    }

    /** "an engine is there (or drives there)". */
    private static void digWhereAnEngineIsOrDrivesTo() {
        FireEngines x = new FireEngines();
        x.addEngine(5, 5, 4, 1);
        Check.noState("dig where it stands", x, () -> x.dig(5, 5, 1));
        x.drive(0, 7, 5);
        Check.noState("dig where it set out", x, () -> x.dig(5, 5, 1));
        Check.noState("dig where it drives to", x, () -> x.dig(7, 5, 1));
        Check.same("dig on the way", x.dig(6, 5, 1), 0);
        x.pass(1);
        Check.noState("a minute before, where it set out", x, () -> x.dig(5, 5, 1));
        Check.noState("a minute before, where it drives to", x, () -> x.dig(7, 5, 1));
        x.pass(1);
        Check.noState("dig where it came to", x, () -> x.dig(7, 5, 1));
        Check.same("dig where it was", x.dig(5, 5, 1), 1);
    }

    /** "There are at most 6"; "or there are 6". */
    private static void digSix() {
        FireEngines x = new FireEngines();
        for (int i = 0; i < 5; i++) {
            x.dig(i, 3, 0);
        }
        Check.same("5", x.count(5), 5);
        Check.same("the 6th", x.dig(13, 9, 5000), 5);
        Check.noState("the 7th", x, () -> x.dig(12, 9, 1));
        Check.same("6", x.count(5), 6);
        Check.same("the last one's water", x.pond(5), 5000);
    }

    /** "If several exceptions apply, the one that is named first is thrown." */
    private static void digNamesTheFirstException() {
        FireEngines x = Towns.full();
        Check.noIndex("no cell, wrong water, 6 ponds", x, () -> x.dig(14, 0, 5001));
        Check.noIndex("no cell, 6 ponds", x, () -> x.dig(0, 10, 1));
        Check.noArgument("wrong water, 6 ponds", x, () -> x.dig(13, 5, -1));
        Check.noArgument("wrong water on a house", x, () -> x.dig(0, 0, 5001));
        Check.noArgument("wrong water on a pond", x, () -> x.dig(0, 9, 5001));
        Check.noArgument("wrong water on an engine", x, () -> x.dig(0, 8, -1));
        FireEngines y = new FireEngines();
        Check.noIndex("no cell, wrong water", y, () -> y.dig(0, -1, -1));
    }

    /** "A method that throws an exception changes nothing." */
    private static void refusedDigsChangeNothing() {
        FireEngines x = Towns.withHouse(Towns.BURNS);
        FireEngines y = Towns.withHouse(Towns.BURNS);
        Check.noIndex("no cell", x, () -> x.dig(14, 4, 1));
        Check.noArgument("water", x, () -> x.dig(9, 9, 5001));
        Check.noState("a house", x, () -> x.dig(5, 5, 9));
        Check.noState("a pond", x, () -> x.dig(3, 5, 9));
        Check.noState("an engine", x, () -> x.dig(4, 5, 9));
        Check.twins("digs", x, y);
        FireEngines full = Towns.full();
        Check.noState("a 7th", full, () -> full.dig(13, 5, 1));
        Check.twins("a 7th pond", full, Towns.full());
    }

    // ---- promise 4

    /** "Throws IndexOutOfBoundsException if there is no such house". */
    private static void lightNoSuchHouse() {
        FireEngines x = new FireEngines();
        Check.noIndex("0 of none", x, () -> x.light(0, 1));
        x.dig(9, 9, 1);
        x.addEngine(8, 8, 1, 1);
        Check.noIndex("ponds and engines are no houses", x, () -> x.light(0, 1));
        x.build(0, 0, 1, 60);
        for (int house : new int[] {-1, 1, 100, MIN, MAX}) {
            Check.noIndex("light " + house, x, () -> x.light(house, 1));
        }
        Check.same("0 of one", x.light(0, 1), 1);
        FireEngines full = Towns.full();
        Check.noIndex("30 of 30", full, () -> full.light(30, 1));
        Check.same("29 of 30", full.light(29, 1), 1);
    }

    /** "Throws IllegalArgumentException if heat is not 1 to 99". */
    private static void lightWithHeat() {
        FireEngines x = new FireEngines();
        x.build(0, 0, 1, 60);
        x.build(9, 9, 1, 60);
        for (int heat : new int[] {0, 100, -1, MIN, MAX}) {
            Check.noArgument("heat " + heat, x, () -> x.light(0, heat));
        }
        Check.same("heat 1", x.light(0, 1), 1);
        Check.same("heat 99", x.light(1, 99), 2);
        Check.same("its heat", x.house(0, 4), 1);
        Check.same("its heat", x.house(1, 4), 99);
    }

    /** "Throws IllegalStateException if it is not whole". */
    private static void lightOneThatIsNotWhole() {
        for (int state = Towns.BURNS; state <= Towns.FALLEN; state++) {
            FireEngines x = Towns.withHouse(state);
            Check.noState("light one of state " + state, x, () -> x.light(0, 50));
        }
        FireEngines x = Towns.withHouse(Towns.WHOLE);
        x.aim(0, 0);
        x.pass(5);
        Check.same("a whole one under water", x.light(0, 50), 1);
    }

    /** "Returns how many houses burn then": 1 at least, 30 at most. */
    private static void lightAsManyAsThereCanBe() {
        FireEngines x = Towns.full();
        for (int i = 0; i < 30; i++) {
            Check.same("light", x.light(29 - i, 99), i + 1);
        }
        Check.same("all heat", x.count(8), 30 * 99);
        FireEngines y = Towns.withHouse(Towns.FALLEN);
        y.build(9, 9, 1, 60);
        Check.same("a fallen one is not counted", y.light(1, 1), 1);
        FireEngines z = Towns.withHouse(Towns.OUT);
        z.build(9, 9, 1, 60);
        Check.same("nor one that is out", z.light(1, 1), 1);
    }

    /** "If several exceptions apply, the one that is named first is thrown." */
    private static void lightNamesTheFirstException() {
        FireEngines x = Towns.withHouse(Towns.BURNS);
        Check.noIndex("no house, wrong heat", x, () -> x.light(1, 0));
        Check.noIndex("no house, wrong heat", x, () -> x.light(-1, 100));
        Check.noArgument("wrong heat, it burns", x, () -> x.light(0, 0));
        Check.noArgument("wrong heat, it burns", x, () -> x.light(0, 100));
    }

    /** "A method that throws an exception changes nothing." */
    private static void refusedLightsChangeNothing() {
        for (int state = Towns.WHOLE; state <= Towns.FALLEN; state++) {
            FireEngines x = Towns.withHouse(state);
            Check.noIndex("no house", x, () -> x.light(1, 50));
            Check.noArgument("heat", x, () -> x.light(0, 100));
            if (state != Towns.WHOLE) {
                Check.noState("not whole", x, () -> x.light(0, 50));
            }
            Check.twins("lights", x, Towns.withHouse(state));
        }
    }

    // ---- promise 5

    /** "Throws IndexOutOfBoundsException if there is no such cell". */
    private static void cellOnTheEdges() {
        FireEngines x = Towns.full();
        for (int[] p : OUTSIDE) {
            for (int what = 0; what <= 3; what += 3) {
                int asked = what;
                Check.noIndex("cell at " + p[0] + ", " + p[1], x, () -> x.cell(p[0], p[1], asked));
            }
        }
        Check.same("the first one", x.cell(0, 0, 0), 1);
        Check.same("the last of a row", x.cell(13, 0, 1), 13);
        Check.same("the first of the last row", x.cell(0, 9, 0), 2);
        Check.same("the last one", x.cell(13, 9, 0), 0);
    }

    /** "or what is not 0 to 3". */
    private static void cellWhat() {
        FireEngines x = new FireEngines();
        for (int what : new int[] {-1, 4, MIN, MAX}) {
            Check.noIndex("cell(0, 0, " + what + ")", x, () -> x.cell(0, 0, what));
            Check.noIndex("cell(13, 9, " + what + ")", x, () -> x.cell(13, 9, what));
        }
        Check.same("what 0", x.cell(13, 9, 0), 0);
        Check.same("what 3", x.cell(13, 9, 3), 0);
    }

    /** "1 the number of this house or pond, -1 for a street". */
    private static void cellNumbersUpToTheLast() {
        FireEngines x = Towns.full();
        for (int i = 0; i < 30; i++) {
            Check.same("a house", x.cell(i % 14, i / 14, 0), 1);
            Check.same("its number", x.cell(i % 14, i / 14, 1), i);
        }
        for (int i = 0; i < 6; i++) {
            Check.same("a pond", x.cell(2 * i, 9, 0), 2);
            Check.same("its number", x.cell(2 * i, 9, 1), i);
            Check.same("a street under an engine", x.cell(2 * i, 8, 0), 0);
            Check.same("it has no number", x.cell(2 * i, 8, 1), -1);
        }
        for (int state = Towns.WHOLE; state <= Towns.FALLEN; state++) {
            FireEngines y = Towns.withHouse(state);
            Check.same("a house in any state", y.cell(5, 5, 0), 1);
            Check.same("its number", y.cell(5, 5, 1), 0);
        }
    }

    /** "2 engines there": none, all six, and those that drive where they began. */
    private static void cellEnginesNoneAndAll() {
        FireEngines x = new FireEngines();
        Check.same("none", x.cell(7, 7, 2), 0);
        for (int i = 1; i <= 6; i++) {
            x.addEngine(7, 7, 4, 1);
            Check.same("engines there", x.cell(7, 7, 2), i);
        }
        x.drive(5, 9, 7);
        x.pass(1);
        Check.same("a minute before", x.cell(7, 7, 2), 6);
        Check.same("not at its goal yet", x.cell(9, 7, 2), 0);
        x.pass(1);
        Check.same("behind it", x.cell(7, 7, 2), 5);
        Check.same("at its goal", x.cell(9, 7, 2), 1);
    }

    /** "3 the heats of burning houses near it, added": none of them, and all eight. */
    private static void cellHeatsNoneAndAll() {
        FireEngines x = new FireEngines();
        int number = 0;
        for (int y = 4; y <= 6; y++) {
            for (int c = 4; c <= 6; c++) {
                x.build(c, y, 1, 60);
            }
        }
        x.light(4, 50);
        Check.same("its own heat is not near it", x.cell(5, 5, 3), 0);
        for (int i = 0; i < 9; i++) {
            if (i != 4) {
                x.light(i, 99);
                number++;
                Check.same("heats near", x.cell(5, 5, 3), 99 * number);
            }
        }
        Check.same("two away in the column", x.cell(8, 5, 3), 0);
        Check.same("one away from a corner", x.cell(7, 7, 3), 99);
        Check.same("one away from a side", x.cell(7, 5, 3), 3 * 99);
        Check.same("two away in the row", x.cell(5, 8, 3), 0);
        for (int state = Towns.WHOLE; state <= Towns.FALLEN; state++) {
            Check.same("only of burning ones", Towns.withHouse(state).cell(6, 5, 3), state == Towns.BURNS ? 20 : 0);
        }
    }

    /** "of which neither the columns nor the rows differ by more than 1": not round the town's edges. */
    private static void cellHeatsAtTheEdges() {
        FireEngines x = new FireEngines();
        x.build(13, 4, 1, 60);
        x.build(0, 9, 1, 60);
        x.light(0, 10);
        x.light(1, 20);
        for (int y = 0; y < 10; y++) {
            Check.same("in the first column", x.cell(0, y, 3), y == 8 ? 20 : 0);
            Check.same("in the last column", x.cell(13, y, 3), y == 3 || y == 5 ? 10 : 0);
        }
        for (int c = 0; c < 14; c++) {
            Check.same("in the first row", x.cell(c, 0, 3), 0);
        }
    }

    // ---- promise 6

    /** "Throws IndexOutOfBoundsException if there is no such house". */
    private static void houseNoSuchHouse() {
        FireEngines x = new FireEngines();
        Check.noIndex("0 of none", x, () -> x.house(0, 0));
        x.build(5, 5, 1, 1);
        for (int house : new int[] {-1, 1, 75, MIN, MAX}) {
            Check.noIndex("house " + house, x, () -> x.house(house, 0));
        }
        Check.same("0 of one", x.house(0, 0), 75);
        FireEngines full = Towns.full();
        Check.noIndex("30 of 30", full, () -> full.house(30, 6));
        Check.same("29 of 30", full.house(29, 0), 29);
    }

    /** "or what is not 0 to 6". */
    private static void houseWhat() {
        FireEngines x = Towns.full();
        for (int what : new int[] {-1, 7, MIN, MAX}) {
            Check.noIndex("house(0, " + what + ")", x, () -> x.house(0, what));
            Check.noIndex("house(29, " + what + ")", x, () -> x.house(29, what));
        }
        Check.same("what 0", x.house(29, 0), 29);
        Check.same("what 6", x.house(29, 6), 0);
    }

    /** "0 if it has fallen"; "0 if it does not burn"; "0 if it is whole, 1 .., 2 .., 3 ..". */
    private static void houseAtItsLeastAndMost() {
        int[] walls = {60, 60, 60, 0};
        int[] heat = {0, 20, 0, 0};
        for (int state = Towns.WHOLE; state <= Towns.FALLEN; state++) {
            FireEngines x = Towns.withHouse(state);
            Check.same("walls", x.house(0, 2), walls[state]);
            Check.same("state", x.house(0, 3), state);
            Check.same("heat", x.house(0, 4), heat[state]);
            Check.same("water of the latest minute", x.house(0, 5), state == Towns.OUT ? 20 : 0);
            Check.same("water in all", x.house(0, 6), state == Towns.OUT ? 20 : 0);
            x.pass(1);
            Check.same("a minute later none came", x.house(0, 5), 0);
            Check.same("the water in all stays", x.house(0, 6), state == Towns.OUT ? 20 : 0);
        }
    }
}
