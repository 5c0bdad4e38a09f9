import java.util.ArrayList;
import java.util.Arrays;

/**
 * Steam fire engines in a town: horses draw them through the streets, hoses bring water from ponds
 * to burning houses, and what a fire will do can be foreseen.
 *
 * <p>The state of the town stands twice: as it is now, and as a copy on which calls that look ahead
 * let minutes go by. Both are made once and used again, so that looking ahead makes no new objects.
 */
public final class FireEngines {
    private static final int COLUMNS = 14;
    private static final int ROWS = 10;
    private static final int CELLS = COLUMNS * ROWS;

    private static final int MOST_HOUSES = 30;
    private static final int MOST_PONDS = 6;
    private static final int MOST_ENGINES = 6;

    private static final int MOST_WOOD = 9;
    private static final int MOST_WALLS = 60;
    private static final int MOST_POND_WATER = 5000;
    private static final int MOST_HEAT = 99;
    private static final int MOST_HORSES = 4;
    private static final int MOST_POWER = 20;
    private static final int MOST_STEAM = 100;
    private static final int MOST_COAL = 200;
    private static final int MOST_COAL_AT_ONCE = 100;
    private static final int FIRST_COAL = 60;

    private static final int LEAST_STEAM_TO_PUMP = 20;
    private static final int LONGEST_HOSE = 6;
    private static final int HEAT_THAT_CATCHES = 40;
    private static final int FIRST_HEAT = 5;

    private static final int MOST_MINUTES = 100;
    private static final int MOST_MINUTES_TO_ADVISE = 50;
    private static final int MOST_MINUTES_TO_LAST = 200;

    private static final int STREET = 0;
    private static final int HOUSE = 1;
    private static final int POND = 2;

    private static final int WHOLE = 0;
    private static final int BURNS = 1;
    private static final int OUT = 2;
    private static final int FALLEN = 3;

    /** No number, no house, no pond, no goal of a hose. */
    private static final int NONE = -1;

    /** A hose's goal is an engine's number, or this and a house's number. */
    private static final int TO_HOUSE = 100;

    private static final int LAST_CELL_QUESTION = 3;
    private static final int LAST_HOUSE_QUESTION = 6;
    private static final int LAST_ENGINE_QUESTION = 9;
    private static final int LAST_COUNT_QUESTION = 9;
    private static final int LAST_FORESEE_QUESTION = 2;

    private static final int COUNT_BURNING = 2;
    private static final int COUNT_FALLEN = 4;
    private static final int COUNT_HEAT = 8;

    private static final long DIGEST_START = 607L;
    private static final long DIGEST_FACTOR = 31L;

    private final Ground ground;
    private final Town town;
    private final Town ahead;

    public FireEngines() {
        ground = new Ground();
        town = new Town();
        ahead = new Town();
    }

    // ---- the town

    public int build(int x, int y, int wood, int walls)
            throws IndexOutOfBoundsException, IllegalArgumentException, IllegalStateException {
        requireCell(x, y);
        requireRange(wood, 1, MOST_WOOD);
        requireRange(walls, 1, MOST_WALLS);
        int cell = cellAt(x, y);
        requireState(isFree(cell) && town.houses.size() < MOST_HOUSES);
        int number = town.houses.size();
        town.houses.add(new House(cell, wood, walls));
        ground.put(cell, HOUSE, number);
        return number;
    }

    public int dig(int x, int y, int water)
            throws IndexOutOfBoundsException, IllegalArgumentException, IllegalStateException {
        requireCell(x, y);
        requireRange(water, 0, MOST_POND_WATER);
        int cell = cellAt(x, y);
        requireState(isFree(cell) && town.ponds.size() < MOST_PONDS);
        int number = town.ponds.size();
        town.ponds.add(new Pond(cell, water));
        ground.put(cell, POND, number);
        return number;
    }

    public int light(int house, int heat)
            throws IndexOutOfBoundsException, IllegalArgumentException, IllegalStateException {
        requireHouse(house);
        requireRange(heat, 1, MOST_HEAT);
        House lit = town.houses.get(house);
        requireState(lit.state == WHOLE);
        lit.catchFire(heat);
        return town.housesThatAre(BURNS);
    }

    public int cell(int x, int y, int what) throws IndexOutOfBoundsException {
        requireCell(x, y);
        requireQuestion(what, LAST_CELL_QUESTION);
        int cell = cellAt(x, y);
        switch (what) {
            case 0:
                return ground.kindOf(cell);
            case 1:
                return ground.numberOf(cell);
            case 2:
                return town.enginesOn(cell);
            default:
                return town.heatNear(cell);
        }
    }

    public int house(int house, int what) throws IndexOutOfBoundsException {
        requireHouse(house);
        requireQuestion(what, LAST_HOUSE_QUESTION);
        return town.houses.get(house).tell(what);
    }

    // ---- engines

    public int addEngine(int x, int y, int horses, int power)
            throws IndexOutOfBoundsException, IllegalArgumentException, IllegalStateException {
        requireCell(x, y);
        requireRange(horses, 1, MOST_HORSES);
        requireRange(power, 1, MOST_POWER);
        int cell = cellAt(x, y);
        requireState(ground.isStreet(cell) && town.engines.size() < MOST_ENGINES);
        int number = town.engines.size();
        town.engines.add(new Engine(cell, horses, power));
        return number;
    }

    public int stoke(int engine, int coal)
            throws IndexOutOfBoundsException, IllegalArgumentException, IllegalStateException {
        requireEngine(engine);
        requireRange(coal, 1, MOST_COAL_AT_ONCE);
        Engine stoked = town.engines.get(engine);
        requireState(stoked.coal + coal <= MOST_COAL);
        stoked.coal += coal;
        return stoked.coal;
    }

    public int drive(int engine, int x, int y)
            throws IndexOutOfBoundsException, IllegalStateException {
        requireEngine(engine);
        requireCell(x, y);
        Engine driven = town.engines.get(engine);
        int goal = cellAt(x, y);
        requireState(driven.stands() && driven.cell != goal);
        int steps = ground.stepsBetween(driven.cell, goal);
        requireState(steps != NONE);
        town.takeUpHosesOfAndTo(engine);
        driven.setOut(goal, steps);
        return driven.minutesLeft;
    }

    public int relay(int engine, int other)
            throws IndexOutOfBoundsException, IllegalStateException {
        requireEngine(engine);
        requireEngine(other);
        Engine giver = town.engines.get(engine);
        Engine taker = town.engines.get(other);
        int length = distance(giver.cell, taker.cell);
        requireState(giver.stands() && taker.stands() && length <= LONGEST_HOSE);
        requireState(!town.hosesLead(other, engine));
        giver.hose = other;
        return length;
    }

    public int aim(int engine, int house) throws IndexOutOfBoundsException, IllegalStateException {
        requireEngine(engine);
        requireHouse(house);
        Engine giver = town.engines.get(engine);
        int length = distance(giver.cell, town.houses.get(house).cell);
        requireState(giver.stands() && length <= LONGEST_HOSE);
        giver.hose = TO_HOUSE + house;
        return length;
    }

    public boolean takeUp(int engine) throws IndexOutOfBoundsException {
        requireEngine(engine);
        Engine giver = town.engines.get(engine);
        boolean hadOne = giver.hose != NONE;
        giver.hose = NONE;
        return hadOne;
    }

    public int engine(int engine, int what) throws IndexOutOfBoundsException {
        requireEngine(engine);
        requireQuestion(what, LAST_ENGINE_QUESTION);
        return town.tellEngine(town.engines.get(engine), what);
    }

    public int pond(int pond) throws IndexOutOfBoundsException {
        if (pond < 0 || pond >= town.ponds.size()) {
            throw new IndexOutOfBoundsException("no such pond");
        }
        return town.ponds.get(pond).water;
    }

    // ---- minutes

    public int pass(int minutes) throws IllegalArgumentException {
        requireRange(minutes, 1, MOST_MINUTES);
        return town.goOn(minutes);
    }

    public int count(int what) throws IndexOutOfBoundsException {
        requireQuestion(what, LAST_COUNT_QUESTION);
        return town.tell(what);
    }

    // ---- looking ahead

    public int foresee(int minutes, int what)
            throws IllegalArgumentException, IndexOutOfBoundsException {
        requireRange(minutes, 1, MOST_MINUTES);
        requireQuestion(what, LAST_FORESEE_QUESTION);
        ahead.copyFrom(town);
        ahead.goOn(minutes);
        switch (what) {
            case 0:
                return ahead.tell(COUNT_BURNING);
            case 1:
                return ahead.tell(COUNT_FALLEN);
            default:
                return ahead.tell(COUNT_HEAT);
        }
    }

    public int lasts() {
        ahead.copyFrom(town);
        for (int minutes = 0; minutes <= MOST_MINUTES_TO_LAST; minutes++) {
            if (ahead.housesThatAre(BURNS) == 0) {
                return minutes;
            }
            ahead.goOn(1);
        }
        return NONE;
    }

    public int weakest(int engine) throws IndexOutOfBoundsException {
        requireEngine(engine);
        int found = engine;
        int least = town.engines.get(engine).canPump();
        for (int i = 0; i < town.engines.size(); i++) {
            int canPump = town.engines.get(i).canPump();
            boolean weaker = canPump < least || canPump == least && i < found;
            if (weaker && town.hosesLead(i, engine)) {
                found = i;
                least = canPump;
            }
        }
        return found;
    }

    public int advise(int engine, int minutes)
            throws IndexOutOfBoundsException, IllegalArgumentException {
        requireEngine(engine);
        requireRange(minutes, 1, MOST_MINUTES_TO_ADVISE);
        Engine advised = town.engines.get(engine);
        int best = NONE;
        int fewest = MOST_HOUSES + 1;
        for (int i = 0; i < town.houses.size(); i++) {
            House house = town.houses.get(i);
            boolean inReach = distance(advised.cell, house.cell) <= LONGEST_HOSE;
            if (advised.stands() && house.state == BURNS && inReach) {
                int fallen = fallenIfAimed(engine, i, minutes);
                if (fallen < fewest) {
                    fewest = fallen;
                    best = i;
                }
            }
        }
        return best;
    }

    public double walls() {
        int houses = town.houses.size();
        if (houses == 0) {
            return 0.0;
        }
        int sum = 0;
        for (int i = 0; i < houses; i++) {
            sum += town.houses.get(i).walls;
        }
        return (double) sum / (double) houses;
    }

    public long digest() {
        long d = DIGEST_START;
        for (int what = 0; what <= LAST_COUNT_QUESTION; what++) {
            d = d * DIGEST_FACTOR + town.tell(what);
        }
        for (int i = 0; i < town.houses.size(); i++) {
            for (int what = 0; what <= LAST_HOUSE_QUESTION; what++) {
                d = d * DIGEST_FACTOR + town.houses.get(i).tell(what);
            }
        }
        for (int i = 0; i < town.ponds.size(); i++) {
            d = d * DIGEST_FACTOR + town.ponds.get(i).cell;
            d = d * DIGEST_FACTOR + town.ponds.get(i).water;
        }
        for (int i = 0; i < town.engines.size(); i++) {
            for (int what = 0; what <= LAST_ENGINE_QUESTION; what++) {
                d = d * DIGEST_FACTOR + town.tellEngine(town.engines.get(i), what);
            }
        }
        return d;
    }

    private int fallenIfAimed(int engine, int house, int minutes) {
        ahead.copyFrom(town);
        if (engine >= 0 && engine < ahead.engines.size()) {
            ahead.engines.get(engine).hose = TO_HOUSE + house;
        }
        ahead.goOn(minutes);
        return ahead.housesThatAre(FALLEN);
    }

    private boolean isFree(int cell) {
        return ground.isStreet(cell) && town.enginesOn(cell) == 0 && !town.isGoal(cell);
    }

    private void requireHouse(int number) {
        if (number < 0 || number >= town.houses.size()) {
            throw new IndexOutOfBoundsException("no such house");
        }
    }

    private void requireEngine(int number) {
        if (number < 0 || number >= town.engines.size()) {
            throw new IndexOutOfBoundsException("no such engine");
        }
    }

    private static void requireCell(int x, int y) {
        if (!isOnMap(x, y)) {
            throw new IndexOutOfBoundsException("no such cell");
        }
    }

    private static void requireQuestion(int what, int last) {
        if (what < 0 || what > last) {
            throw new IndexOutOfBoundsException("no such question");
        }
    }

    private static void requireRange(int value, int least, int most) {
        if (value < least || value > most) {
            throw new IllegalArgumentException("a number is too small or too great");
        }
    }

    private static void requireState(boolean allowed) {
        if (!allowed) {
            throw new IllegalStateException("not possible now");
        }
    }

    private static boolean isOnMap(int x, int y) {
        return x >= 0 && x < COLUMNS && y >= 0 && y < ROWS;
    }

    private static int cellAt(int x, int y) {
        return x + COLUMNS * y;
    }

    private static int distance(int a, int b) {
        return Math.abs(a % COLUMNS - b % COLUMNS) + Math.abs(a / COLUMNS - b / COLUMNS);
    }

    private static boolean areNear(int a, int b) {
        int columns = a % COLUMNS - b % COLUMNS;
        int rows = a / COLUMNS - b / COLUMNS;
        return a != b && columns * columns <= 1 && rows * rows <= 1;
    }

    /** What is on each cell, and the ways over the streets. It changes with building alone. */
    private static final class Ground {
        private final int[] kinds = new int[CELLS];
        private final int[] numbers = new int[CELLS];
        private final int[] steps = new int[CELLS];

        void put(int cell, int kind, int number) {
            if (isStreet(cell)) {
                kinds[cell] = kind;
                numbers[cell] = number;
            }
        }

        int kindOf(int cell) {
            return cell >= 0 && cell < CELLS ? kinds[cell] : NONE;
        }

        int numberOf(int cell) {
            if (cell < 0 || cell >= CELLS || kinds[cell] == STREET) {
                return NONE;
            }
            return numbers[cell];
        }

        boolean isStreet(int cell) {
            return kindOf(cell) == STREET;
        }

        /** The fewest steps over street cells, or NONE if there is no way. */
        int stepsBetween(int from, int goal) {
            if (!isStreet(from) || !isStreet(goal)) {
                return NONE;
            }
            Arrays.fill(steps, NONE);
            steps[from] = 0;
            int entered = 1;
            for (int wave = 0; wave < CELLS && entered > 0 && steps[goal] == NONE; wave++) {
                entered = spread(wave);
            }
            return steps[goal];
        }

        /** Goes a step on from all cells of a wave, and tells how many cells that entered. */
        private int spread(int wave) {
            int entered = 0;
            for (int cell = 0; cell < CELLS; cell++) {
                if (steps[cell] == wave) {
                    int x = cell % COLUMNS;
                    int y = cell / COLUMNS;
                    entered += enter(x - 1, y, wave + 1);
                    entered += enter(x + 1, y, wave + 1);
                    entered += enter(x, y - 1, wave + 1);
                    entered += enter(x, y + 1, wave + 1);
                }
            }
            return entered;
        }

        private int enter(int x, int y, int wave) {
            if (!isOnMap(x, y)) {
                return 0;
            }
            int cell = cellAt(x, y);
            if (!isStreet(cell) || steps[cell] != NONE) {
                return 0;
            }
            steps[cell] = wave;
            return 1;
        }
    }

    private static final class House {
        private int cell;
        private int wood;
        private int walls;
        private int state;
        private int heat;
        private int came;
        private int cameInAll;

        House(int cell, int wood, int walls) {
            this.cell = cell;
            this.wood = wood;
            this.walls = walls;
            this.state = WHOLE;
        }

        void copyFrom(House other) {
            cell = other.cell;
            wood = other.wood;
            walls = other.walls;
            state = other.state;
            heat = other.heat;
            came = other.came;
            cameInAll = other.cameInAll;
        }

        void catchFire(int firstHeat) {
            state = BURNS;
            heat = firstHeat;
        }

        void takeWater(int water) {
            came += water;
            cameInAll += water;
        }

        void burnAMinute() {
            if (state != BURNS) {
                return;
            }
            heat = Math.min(MOST_HEAT, heat + wood - came / 4);
            if (heat <= 0) {
                endFire(OUT);
                return;
            }
            walls = Math.max(0, walls - 1 - heat / 25);
            if (walls == 0) {
                endFire(FALLEN);
            }
        }

        private void endFire(int newState) {
            state = newState;
            heat = 0;
        }

        int tell(int what) {
            switch (what) {
                case 0:
                    return cell;
                case 1:
                    return wood;
                case 2:
                    return walls;
                case 3:
                    return state;
                case 4:
                    return heat;
                case 5:
                    return came;
                default:
                    return cameInAll;
            }
        }
    }

    private static final class Pond {
        private int cell;
        private int water;

        Pond(int cell, int water) {
            this.cell = cell;
            this.water = water;
        }

        void copyFrom(Pond other) {
            cell = other.cell;
            water = other.water;
        }

        int giveUpTo(int wanted) {
            int given = Math.max(0, Math.min(wanted, water));
            water -= given;
            return given;
        }
    }

    private static final class Engine {
        private int cell;
        private int horses;
        private int power;
        private int coal;
        private int steam;
        private int minutesLeft;
        private int goal;
        private int hose;
        private int came;
        private int gave;
        private boolean asked;

        Engine(int cell, int horses, int power) {
            this.cell = cell;
            this.horses = horses;
            this.power = power;
            this.coal = FIRST_COAL;
            this.goal = NONE;
            this.hose = NONE;
        }

        void copyFrom(Engine other) {
            cell = other.cell;
            horses = other.horses;
            power = other.power;
            coal = other.coal;
            steam = other.steam;
            minutesLeft = other.minutesLeft;
            goal = other.goal;
            hose = other.hose;
            came = other.came;
            gave = other.gave;
            asked = other.asked;
        }

        boolean stands() {
            return minutesLeft == 0;
        }

        int canPump() {
            return stands() && steam >= LEAST_STEAM_TO_PUMP ? power * steam / 20 : 0;
        }

        void setOut(int newGoal, int steps) {
            goal = newGoal;
            minutesLeft = steps * (5 - horses);
        }

        void fire() {
            if (coal > 0) {
                coal--;
                steam = Math.min(MOST_STEAM, steam + 4);
            } else {
                steam = Math.max(0, steam - 3);
            }
        }

        void driveAMinute() {
            if (stands()) {
                return;
            }
            minutesLeft--;
            if (minutesLeft == 0) {
                cell = goal;
                goal = NONE;
            }
        }

        void spendSteam() {
            if (gave > 0) {
                steam = Math.max(0, steam - 2);
            }
        }
    }

    /** All that a minute can change. */
    private static final class Town {
        private int minute;
        private final ArrayList<House> houses = new ArrayList<House>();
        private final ArrayList<Pond> ponds = new ArrayList<Pond>();
        private final ArrayList<Engine> engines = new ArrayList<Engine>();

        /** Takes over what another town is; houses, ponds and engines are never taken away. */
        void copyFrom(Town other) {
            minute = other.minute;
            for (int i = 0; i < other.houses.size(); i++) {
                if (i >= houses.size()) {
                    houses.add(new House(0, 0, 0));
                }
                houses.get(i).copyFrom(other.houses.get(i));
            }
            for (int i = 0; i < other.ponds.size(); i++) {
                if (i >= ponds.size()) {
                    ponds.add(new Pond(0, 0));
                }
                ponds.get(i).copyFrom(other.ponds.get(i));
            }
            for (int i = 0; i < other.engines.size(); i++) {
                if (i >= engines.size()) {
                    engines.add(new Engine(0, 0, 0));
                }
                engines.get(i).copyFrom(other.engines.get(i));
            }
        }

        // ---- what is asked

        int tell(int what) {
            switch (what) {
                case 0:
                    return minute;
                case 1:
                    return houses.size();
                case COUNT_BURNING:
                    return housesThatAre(BURNS);
                case 3:
                    return housesThatAre(OUT);
                case COUNT_FALLEN:
                    return housesThatAre(FALLEN);
                case 5:
                    return ponds.size();
                case 6:
                    return engines.size();
                case 7:
                    return waterOfPonds();
                case COUNT_HEAT:
                    return sumOverHouses(4);
                default:
                    return sumOverHouses(6);
            }
        }

        int tellEngine(Engine engine, int what) {
            switch (what) {
                case 0:
                    return engine.cell;
                case 1:
                    return engine.horses;
                case 2:
                    return engine.power;
                case 3:
                    return engine.coal;
                case 4:
                    return engine.steam;
                case 5:
                    return engine.minutesLeft;
                case 6:
                    return engine.hose;
                case 7:
                    return pondBy(engine);
                case 8:
                    return engine.gave;
                default:
                    return engine.canPump();
            }
        }

        int housesThatAre(int state) {
            int found = 0;
            for (int i = 0; i < houses.size(); i++) {
                if (houses.get(i).state == state) {
                    found++;
                }
            }
            return found;
        }

        private int sumOverHouses(int what) {
            int sum = 0;
            for (int i = 0; i < houses.size(); i++) {
                sum += houses.get(i).tell(what);
            }
            return sum;
        }

        private int waterOfPonds() {
            int sum = 0;
            for (int i = 0; i < ponds.size(); i++) {
                sum += ponds.get(i).water;
            }
            return sum;
        }

        int enginesOn(int cell) {
            int found = 0;
            for (int i = 0; i < engines.size(); i++) {
                if (engines.get(i).cell == cell) {
                    found++;
                }
            }
            return found;
        }

        boolean isGoal(int cell) {
            for (int i = 0; i < engines.size(); i++) {
                if (engines.get(i).goal == cell) {
                    return true;
                }
            }
            return false;
        }

        int heatNear(int cell) {
            int sum = 0;
            for (int i = 0; i < houses.size(); i++) {
                House house = houses.get(i);
                if (house.state == BURNS && areNear(house.cell, cell)) {
                    sum += house.heat;
                }
            }
            return sum;
        }

        private int pondBy(Engine engine) {
            for (int i = 0; i < ponds.size() && engine.stands(); i++) {
                if (areNear(ponds.get(i).cell, engine.cell)) {
                    return i;
                }
            }
            return NONE;
        }

        // ---- hoses

        private boolean isEngine(int number) {
            return number >= 0 && number < engines.size();
        }

        private boolean isHouse(int number) {
            return number >= 0 && number < houses.size();
        }

        /** Whether water of an engine comes to another one by hoses, or both are the same. */
        boolean hosesLead(int from, int to) {
            int at = from;
            for (int hoses = 0; hoses <= MOST_ENGINES && isEngine(at); hoses++) {
                if (at == to) {
                    return true;
                }
                at = engines.get(at).hose;
            }
            return false;
        }

        void takeUpHosesOfAndTo(int number) {
            for (int i = 0; i < engines.size(); i++) {
                Engine engine = engines.get(i);
                if (i == number || engine.hose == number) {
                    engine.hose = NONE;
                }
            }
        }

        // ---- what a minute does

        /** Lets minutes go by, and tells how many houses caught fire in them. */
        int goOn(int minutes) {
            int caught = 0;
            for (int i = 0; i < minutes; i++) {
                fireAndDrive();
                moveWater();
                for (int h = 0; h < houses.size(); h++) {
                    houses.get(h).burnAMinute();
                }
                caught += catchFire();
                minute++;
            }
            return caught;
        }

        private void fireAndDrive() {
            for (int i = 0; i < engines.size(); i++) {
                engines.get(i).fire();
                engines.get(i).driveAMinute();
            }
        }

        private void moveWater() {
            for (int i = 0; i < houses.size(); i++) {
                houses.get(i).came = 0;
            }
            for (int i = 0; i < engines.size(); i++) {
                Engine engine = engines.get(i);
                engine.came = 0;
                engine.gave = 0;
                engine.asked = false;
            }
            for (int turn = 0; turn < engines.size(); turn++) {
                int number = nextToAsk();
                if (isEngine(number)) {
                    Engine giver = engines.get(number);
                    ask(giver);
                    sendThroughHose(giver);
                }
            }
            for (int i = 0; i < engines.size(); i++) {
                engines.get(i).spendSteam();
            }
        }

        private int nextToAsk() {
            for (int i = 0; i < engines.size(); i++) {
                if (!engines.get(i).asked && !waitsForWater(i)) {
                    return i;
                }
            }
            return NONE;
        }

        private boolean waitsForWater(int number) {
            for (int i = 0; i < engines.size(); i++) {
                Engine giver = engines.get(i);
                if (!giver.asked && giver.hose == number) {
                    return true;
                }
            }
            return false;
        }

        private void ask(Engine engine) {
            engine.asked = true;
            if (engine.hose == NONE) {
                return;
            }
            int most = engine.canPump();
            int water = engine.came;
            int pond = pondBy(engine);
            if (pond >= 0 && pond < ponds.size()) {
                water += ponds.get(pond).giveUpTo(most - water);
            }
            engine.gave = Math.min(water, most);
        }

        private void sendThroughHose(Engine giver) {
            int house = giver.hose - TO_HOUSE;
            if (isEngine(giver.hose)) {
                Engine taker = engines.get(giver.hose);
                taker.came += arriving(giver.gave, distance(giver.cell, taker.cell));
            } else if (isHouse(house)) {
                House taker = houses.get(house);
                taker.takeWater(arriving(giver.gave, distance(giver.cell, taker.cell)));
            }
        }

        private static int arriving(int given, int length) {
            return given - given * (length / 2) / 10;
        }

        /** All houses catch fire at once: the new ones must not heat the next ones asked. */
        private int catchFire() {
            int caught = 0;
            for (int i = 0; i < houses.size(); i++) {
                House house = houses.get(i);
                if (house.state == WHOLE && heatNear(house.cell) - house.came >= HEAT_THAT_CATCHES) {
                    house.state = BURNS;
                    caught++;
                }
            }
            for (int i = 0; i < houses.size(); i++) {
                House house = houses.get(i);
                if (house.state == BURNS && house.heat == 0) {
                    house.heat = FIRST_HEAT;
                }
            }
            return caught;
        }
    }
}
