import java.util.ArrayList;
import java.util.Arrays;
import java.util.List;
import java.util.TreeSet;

/**
 * The document told a second time, in its own order, plainly and slowly, and apart from how the program does it:
 * what RandomRunsTest holds the program's answers against.
 */
final class PlainTown {
    private static final int COLUMNS = 14;
    private static final int ROWS = 10;

    private static final class House {
        int cell;
        int wood;
        int walls;
        int state;
        int heat;
        int latest;
        int inAll;
    }

    private static final class Pond {
        int cell;
        int water;
    }

    private static final class Engine {
        int cell;
        int horses;
        int power;
        int coal = 60;
        int steam;
        int minutes;
        int goal;
        int hose = -1;
        int gave;
    }

    private int minute;
    private final List<House> houses = new ArrayList<House>();
    private final List<Pond> ponds = new ArrayList<Pond>();
    private final List<Engine> engines = new ArrayList<Engine>();

    private PlainTown copy() {
        PlainTown other = new PlainTown();
        other.minute = minute;
        for (House h : houses) {
            House c = new House();
            c.cell = h.cell;
            c.wood = h.wood;
            c.walls = h.walls;
            c.state = h.state;
            c.heat = h.heat;
            c.latest = h.latest;
            c.inAll = h.inAll;
            other.houses.add(c);
        }
        for (Pond p : ponds) {
            Pond c = new Pond();
            c.cell = p.cell;
            c.water = p.water;
            other.ponds.add(c);
        }
        for (Engine e : engines) {
            Engine c = new Engine();
            c.cell = e.cell;
            c.horses = e.horses;
            c.power = e.power;
            c.coal = e.coal;
            c.steam = e.steam;
            c.minutes = e.minutes;
            c.goal = e.goal;
            c.hose = e.hose;
            c.gave = e.gave;
            other.engines.add(c);
        }
        return other;
    }

    // ---- terms

    private static boolean near(int a, int b) {
        return a != b && Math.abs(a % COLUMNS - b % COLUMNS) < 2 && Math.abs(a / COLUMNS - b / COLUMNS) < 2;
    }

    private static int length(int a, int b) {
        return Math.abs(a % COLUMNS - b % COLUMNS) + Math.abs(a / COLUMNS - b / COLUMNS);
    }

    private int houseOn(int cell) {
        for (int i = 0; i < houses.size(); i++) {
            if (houses.get(i).cell == cell) {
                return i;
            }
        }
        return -1;
    }

    private int pondOn(int cell) {
        for (int i = 0; i < ponds.size(); i++) {
            if (ponds.get(i).cell == cell) {
                return i;
            }
        }
        return -1;
    }

    private boolean street(int cell) {
        return houseOn(cell) < 0 && pondOn(cell) < 0;
    }

    private int heatNear(int cell) {
        int sum = 0;
        for (House h : houses) {
            sum += h.state == 1 && near(h.cell, cell) ? h.heat : 0;
        }
        return sum;
    }

    /** The fewest steps to each cell, found by making them fewer until none gets fewer. */
    private int steps(int from, int goal) {
        int far = 1000000;
        int[] steps = new int[COLUMNS * ROWS];
        Arrays.fill(steps, far);
        steps[from] = 0;
        boolean fewer = true;
        while (fewer) {
            fewer = false;
            for (int a = 0; a < steps.length; a++) {
                for (int b = 0; b < steps.length; b++) {
                    if (length(a, b) == 1 && street(a) && street(b) && steps[a] + 1 < steps[b]) {
                        steps[b] = steps[a] + 1;
                        fewer = true;
                    }
                }
            }
        }
        return steps[goal] < far ? steps[goal] : -1;
    }

    private int sucksFrom(Engine e) {
        for (int i = 0; i < ponds.size(); i++) {
            if (e.minutes == 0 && near(ponds.get(i).cell, e.cell)) {
                return i;
            }
        }
        return -1;
    }

    private static int canPump(Engine e) {
        return e.minutes > 0 || e.steam < 20 ? 0 : e.power * e.steam / 20;
    }

    /** The engine and all whose water comes to it by hoses. */
    private TreeSet<Integer> comesTo(int engine) {
        TreeSet<Integer> all = new TreeSet<Integer>();
        all.add(engine);
        for (int round = 0; round < 6; round++) {
            for (int i = 0; i < engines.size(); i++) {
                if (all.contains(engines.get(i).hose)) {
                    all.add(i);
                }
            }
        }
        return all;
    }

    // ---- the six steps of a minute

    private int oneMinute() {
        for (Engine e : engines) {
            e.steam = e.coal > 0 ? Math.min(100, e.steam + 4) : Math.max(0, e.steam - 3);
            e.coal = Math.max(0, e.coal - 1);
        }
        for (Engine e : engines) {
            if (e.minutes > 0) {
                e.minutes--;
                e.cell = e.minutes == 0 ? e.goal : e.cell;
            }
        }
        water();
        for (Engine e : engines) {
            e.steam = e.gave > 0 ? Math.max(0, e.steam - 2) : e.steam;
        }
        fire();
        int caught = catching();
        minute++;
        return caught;
    }

    private void water() {
        int[] comes = new int[6];
        TreeSet<Integer> left = new TreeSet<Integer>();
        for (int i = 0; i < engines.size(); i++) {
            left.add(i);
        }
        for (House h : houses) {
            h.latest = 0;
        }
        while (!left.isEmpty()) {
            TreeSet<Integer> free = new TreeSet<Integer>(left);
            for (int i : left) {
                free.remove(engines.get(i).hose);
            }
            int next = free.first();
            left.remove(next);
            askForWater(engines.get(next), comes, next);
        }
    }

    private void askForWater(Engine e, int[] comes, int number) {
        e.gave = 0;
        if (e.hose == -1) {
            return;
        }
        int water = comes[number];
        if (sucksFrom(e) >= 0 && water < canPump(e)) {
            Pond p = ponds.get(sucksFrom(e));
            int sucked = Math.min(p.water, canPump(e) - water);
            p.water -= sucked;
            water += sucked;
        }
        e.gave = Math.min(water, canPump(e));
        int to = e.hose >= 100 ? houses.get(e.hose - 100).cell : engines.get(e.hose).cell;
        int arrives = e.gave - e.gave * (length(e.cell, to) / 2) / 10;
        if (e.hose >= 100) {
            houses.get(e.hose - 100).latest += arrives;
            houses.get(e.hose - 100).inAll += arrives;
        } else {
            comes[e.hose] += arrives;
        }
    }

    private void fire() {
        for (House h : houses) {
            if (h.state != 1) {
                continue;
            }
            h.heat = h.heat + h.wood - h.latest / 4;
            h.heat = h.heat > 99 ? 99 : h.heat;
            if (h.heat <= 0) {
                h.state = 2;
                h.heat = 0;
                continue;
            }
            h.walls -= 1 + h.heat / 25;
            if (h.walls <= 0) {
                h.walls = 0;
                h.state = 3;
                h.heat = 0;
            }
        }
    }

    private int catching() {
        List<House> caught = new ArrayList<House>();
        for (House h : houses) {
            if (h.state == 0 && heatNear(h.cell) - h.latest >= 40) {
                caught.add(h);
            }
        }
        for (House h : caught) {
            h.state = 1;
            h.heat = 5;
        }
        return caught.size();
    }

    // ---- the calls, by their number on the document's face

    long call(int[] c) {
        switch (c[0]) {
            case 0: return build(c[1], c[2], c[3], c[4]);
            case 1: return dig(c[1], c[2], c[3]);
            case 2: return light(c[1], c[2]);
            case 3: return cell(c[1], c[2], c[3]);
            case 4: return house(c[1], c[2]);
            case 5: return addEngine(c[1], c[2], c[3], c[4]);
            case 6: return stoke(c[1], c[2]);
            case 7: return drive(c[1], c[2], c[3]);
            case 8: return relay(c[1], c[2]);
            case 9: return aim(c[1], c[2]);
            case 10: return takeUp(c[1]);
            case 11: return engine(c[1], c[2]);
            case 12: return pond(c[1]);
            case 13: return pass(c[1]);
            case 14: return count(c[1]);
            case 15: return foresee(c[1], c[2]);
            case 16: return lasts();
            case 17: return weakest(c[1]);
            case 18: return advise(c[1], c[2]);
            case 19: return Double.doubleToLongBits(walls());
            default: return digest();
        }
    }

    private static void index(boolean fits) {
        if (!fits) {
            throw new IndexOutOfBoundsException();
        }
    }

    private static void argument(boolean fits) {
        if (!fits) {
            throw new IllegalArgumentException();
        }
    }

    private static void state(boolean fits) {
        if (!fits) {
            throw new IllegalStateException();
        }
    }

    private static void onTheMap(int x, int y) {
        index(0 <= x && x <= 13 && 0 <= y && y <= 9);
    }

    private Engine engineOf(int number) {
        index(0 <= number && number < engines.size());
        return engines.get(number);
    }

    private House houseOf(int number) {
        index(0 <= number && number < houses.size());
        return houses.get(number);
    }

    private void nobodyAt(int cell) {
        state(street(cell));
        for (Engine e : engines) {
            state(e.cell != cell);
            state(e.minutes == 0 || e.goal != cell);
        }
    }

    private int build(int x, int y, int wood, int walls) {
        onTheMap(x, y);
        argument(1 <= wood && wood <= 9);
        argument(1 <= walls && walls <= 60);
        nobodyAt(x + 14 * y);
        state(houses.size() < 30);
        House h = new House();
        h.cell = x + 14 * y;
        h.wood = wood;
        h.walls = walls;
        houses.add(h);
        return houses.size() - 1;
    }

    private int dig(int x, int y, int water) {
        onTheMap(x, y);
        argument(0 <= water && water <= 5000);
        nobodyAt(x + 14 * y);
        state(ponds.size() < 6);
        Pond p = new Pond();
        p.cell = x + 14 * y;
        p.water = water;
        ponds.add(p);
        return ponds.size() - 1;
    }

    private int light(int house, int heat) {
        House h = houseOf(house);
        argument(1 <= heat && heat <= 99);
        state(h.state == 0);
        h.state = 1;
        h.heat = heat;
        return count(2);
    }

    private int cell(int x, int y, int what) {
        onTheMap(x, y);
        index(0 <= what && what <= 3);
        int cell = x + 14 * y;
        if (what == 0) {
            return houseOn(cell) >= 0 ? 1 : pondOn(cell) >= 0 ? 2 : 0;
        }
        if (what == 1) {
            return Math.max(houseOn(cell), pondOn(cell));
        }
        int there = 0;
        for (Engine e : engines) {
            there += e.cell == cell ? 1 : 0;
        }
        return what == 2 ? there : heatNear(cell);
    }

    private int house(int house, int what) {
        House h = houseOf(house);
        index(0 <= what && what <= 6);
        return new int[] {h.cell, h.wood, h.walls, h.state, h.heat, h.latest, h.inAll}[what];
    }

    private int addEngine(int x, int y, int horses, int power) {
        onTheMap(x, y);
        argument(1 <= horses && horses <= 4);
        argument(1 <= power && power <= 20);
        state(street(x + 14 * y));
        state(engines.size() < 6);
        Engine e = new Engine();
        e.cell = x + 14 * y;
        e.horses = horses;
        e.power = power;
        engines.add(e);
        return engines.size() - 1;
    }

    private int stoke(int engine, int coal) {
        Engine e = engineOf(engine);
        argument(1 <= coal && coal <= 100);
        state(e.coal + coal <= 200);
        e.coal += coal;
        return e.coal;
    }

    private int drive(int engine, int x, int y) {
        Engine e = engineOf(engine);
        onTheMap(x, y);
        state(e.minutes == 0);
        state(e.cell != x + 14 * y);
        int steps = steps(e.cell, x + 14 * y);
        state(steps > 0);
        e.goal = x + 14 * y;
        e.minutes = steps * (5 - e.horses);
        e.hose = -1;
        for (Engine other : engines) {
            other.hose = other.hose == engine ? -1 : other.hose;
        }
        return e.minutes;
    }

    private int relay(int engine, int other) {
        Engine e = engineOf(engine);
        Engine o = engineOf(other);
        state(e.minutes == 0 && o.minutes == 0);
        state(length(e.cell, o.cell) <= 6);
        state(!comesTo(engine).contains(other));
        e.hose = other;
        return length(e.cell, o.cell);
    }

    private int aim(int engine, int house) {
        Engine e = engineOf(engine);
        House h = houseOf(house);
        state(e.minutes == 0);
        state(length(e.cell, h.cell) <= 6);
        e.hose = 100 + house;
        return length(e.cell, h.cell);
    }

    private int takeUp(int engine) {
        Engine e = engineOf(engine);
        int had = e.hose == -1 ? 0 : 1;
        e.hose = -1;
        return had;
    }

    private int engine(int engine, int what) {
        Engine e = engineOf(engine);
        index(0 <= what && what <= 9);
        return new int[] {e.cell, e.horses, e.power, e.coal, e.steam, e.minutes, e.hose, sucksFrom(e), e.gave,
            canPump(e)}[what];
    }

    private int pond(int pond) {
        index(0 <= pond && pond < ponds.size());
        return ponds.get(pond).water;
    }

    private int pass(int minutes) {
        argument(1 <= minutes && minutes <= 100);
        int caught = 0;
        for (int i = 0; i < minutes; i++) {
            caught += oneMinute();
        }
        return caught;
    }

    private int count(int what) {
        index(0 <= what && what <= 9);
        int[] states = new int[4];
        int heat = 0;
        int came = 0;
        int water = 0;
        for (House h : houses) {
            states[h.state]++;
            heat += h.heat;
            came += h.inAll;
        }
        for (Pond p : ponds) {
            water += p.water;
        }
        return new int[] {minute, houses.size(), states[1], states[2], states[3], ponds.size(), engines.size(), water,
            heat, came}[what];
    }

    private int foresee(int minutes, int what) {
        argument(1 <= minutes && minutes <= 100);
        index(0 <= what && what <= 2);
        PlainTown then = copy();
        then.pass(minutes);
        return then.count(new int[] {2, 4, 8}[what]);
    }

    private int lasts() {
        PlainTown then = copy();
        int minutes = 0;
        while (then.count(2) > 0 && minutes < 200) {
            then.pass(1);
            minutes++;
        }
        return then.count(2) == 0 ? minutes : -1;
    }

    private int weakest(int engine) {
        engineOf(engine);
        int found = -1;
        for (int i : comesTo(engine)) {
            if (found == -1 || engine(i, 9) < engine(found, 9)) {
                found = i;
            }
        }
        return found;
    }

    private int advise(int engine, int minutes) {
        Engine e = engineOf(engine);
        argument(1 <= minutes && minutes <= 50);
        int best = -1;
        int fewest = 31;
        for (int i = 0; i < houses.size() && e.minutes == 0; i++) {
            if (houses.get(i).state == 1 && length(e.cell, houses.get(i).cell) <= 6) {
                PlainTown then = copy();
                then.aim(engine, i);
                then.pass(minutes);
                best = then.count(4) < fewest ? i : best;
                fewest = Math.min(fewest, then.count(4));
            }
        }
        return best;
    }

    private double walls() {
        double sum = 0;
        for (House h : houses) {
            sum += h.walls;
        }
        return houses.isEmpty() ? 0.0 : sum / houses.size();
    }

    private long digest() {
        long d = 607;
        for (int what = 0; what <= 9; what++) {
            d = d * 31 + count(what);
        }
        for (int i = 0; i < houses.size(); i++) {
            for (int what = 0; what <= 6; what++) {
                d = d * 31 + house(i, what);
            }
        }
        for (Pond p : ponds) {
            d = d * 31 + p.cell;
            d = d * 31 + p.water;
        }
        for (int i = 0; i < engines.size(); i++) {
            for (int what = 0; what <= 9; what++) {
                d = d * 31 + engine(i, what);
            }
        }
        return d;
    }
}
