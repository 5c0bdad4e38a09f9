/** Promises 7 to 14: addEngine, stoke, drive, relay, aim, takeUp, engine, pond. */
public final class EnginesTest {
    private static final int MIN = Integer.MIN_VALUE;
    private static final int MAX = Integer.MAX_VALUE;

    public static void main(String[] args) {
        addEngine();
        addEngineRefuses();
        stoke();
        drive();
        driveRefuses();
        waysAroundHouses();
        drivingTakesHosesUp();
        relay();
        relayRefuses();
        noWaterComesBack();
        aim();
        takeUp();
        engine();
        canSuckFrom();
        pond();
        Check.end();
    }

    private static void addEngine() {
        FireEngines x = new FireEngines();
        Check.same("engine 0", x.addEngine(13, 9, 4, 20), 0);
        Check.same("engine 1, on the same cell", x.addEngine(13, 9, 1, 1), 1);
        Check.same("engines", x.count(6), 2);
        int[] due = {139, 4, 20, 60, 0, 0, -1, -1, 0, 0};
        for (int what = 0; what <= 9; what++) {
            Check.same("engine(0, " + what + ")", x.engine(0, what), due[what]);
        }
        for (int i = 2; i < 6; i++) {
            Check.same("engine", x.addEngine(0, i, 1, 1), i);
        }
        Check.noState("a 7th engine", x, () -> x.addEngine(5, 5, 1, 1));
        Check.noArgument("wrong horses go before too many", x, () -> x.addEngine(5, 5, 0, 1));
    }

    private static void addEngineRefuses() {
        FireEngines x = new FireEngines();
        int[][] outside = {{-1, 0}, {14, 0}, {0, -1}, {0, 10}, {MIN, MAX}};
        for (int[] p : outside) {
            Check.noIndex("an engine outside", x, () -> x.addEngine(p[0], p[1], 1, 1));
            Check.noIndex("outside goes before wrong horses", x, () -> x.addEngine(p[0], p[1], 0, 0));
        }
        int[][] wrong = {{0, 1}, {5, 1}, {1, 0}, {1, 21}, {MIN, 1}, {1, MAX}};
        for (int[] p : wrong) {
            Check.noArgument("an engine with " + p[0] + ", " + p[1], x, () -> x.addEngine(0, 0, p[0], p[1]));
        }
        x.build(1, 1, 1, 1);
        x.dig(2, 1, 1);
        Check.noState("an engine in a house", x, () -> x.addEngine(1, 1, 1, 1));
        Check.noState("an engine in a pond", x, () -> x.addEngine(2, 1, 1, 1));
        Check.noArgument("wrong power goes before the state", x, () -> x.addEngine(1, 1, 1, 0));
    }

    private static void stoke() {
        FireEngines x = new FireEngines();
        Check.noIndex("stoke none", x, () -> x.stoke(0, 1));
        x.addEngine(0, 0, 1, 1);
        Check.noIndex("stoke -1", x, () -> x.stoke(-1, 1));
        Check.noIndex("no engine goes before wrong coal", x, () -> x.stoke(1, 0));
        for (int coal : new int[] {0, 101, -1, MIN, MAX}) {
            Check.noArgument("stoke with " + coal, x, () -> x.stoke(0, coal));
        }
        Check.same("stoke 1", x.stoke(0, 1), 61);
        Check.same("stoke 100", x.stoke(0, 100), 161);
        Check.noState("stoke beyond 200", x, () -> x.stoke(0, 40));
        Check.noArgument("wrong coal goes before too much", x, () -> x.stoke(0, 101));
        Check.same("stoke to 200", x.stoke(0, 39), 200);
        Check.noState("stoke beyond 200 by 1", x, () -> x.stoke(0, 1));
        x.drive(0, 5, 5);
        x.pass(1);
        Check.same("stoke while it drives", x.stoke(0, 1), 200);
    }

    private static void drive() {
        for (int horses = 1; horses <= 4; horses++) {
            FireEngines x = new FireEngines();
            x.addEngine(2, 2, horses, 1);
            int due = 5 * (5 - horses);
            Check.same("drive with horses " + horses, x.drive(0, 4, 5), due);
            Check.same("minutes yet", x.engine(0, 5), due);
            Check.same("counts as where it began", x.engine(0, 0), 30);
            x.pass(due - 1);
            Check.same("a minute before", x.engine(0, 0), 30);
            Check.same("a minute yet", x.engine(0, 5), 1);
            x.pass(1);
            Check.same("at its goal", x.engine(0, 0), 74);
            Check.same("it stands", x.engine(0, 5), 0);
            x.pass(1);
            Check.same("it stays", x.engine(0, 0), 74);
            Check.same("it drives back", x.drive(0, 2, 2), due);
        }
        FireEngines x = new FireEngines();
        x.addEngine(0, 0, 1, 1);
        x.addEngine(13, 9, 4, 1);
        Check.same("from corner to corner", x.drive(0, 13, 9), 88);
        Check.same("engines are in nobody's way", x.drive(1, 0, 0), 22);
    }

    private static void driveRefuses() {
        FireEngines x = new FireEngines();
        Check.noIndex("drive none", x, () -> x.drive(0, 0, 0));
        x.addEngine(0, 0, 1, 1);
        x.build(3, 3, 1, 1);
        x.dig(4, 4, 1);
        int[][] wrong = {{-1, 1, 1}, {1, 1, 1}, {0, -1, 0}, {0, 14, 0}, {0, 0, -1}, {0, 0, 10},
            {MIN, 0, 0}, {0, MAX, MAX}};
        for (int[] p : wrong) {
            Check.noIndex("drive", x, () -> x.drive(p[0], p[1], p[2]));
        }
        Check.noState("drive to where it is", x, () -> x.drive(0, 0, 0));
        Check.noState("drive into a house", x, () -> x.drive(0, 3, 3));
        Check.noState("drive into a pond", x, () -> x.drive(0, 4, 4));
        x.drive(0, 2, 0);
        Check.noState("drive while it drives", x, () -> x.drive(0, 5, 0));
        Check.noState("drive back while it drives", x, () -> x.drive(0, 0, 0));
        Check.noIndex("no cell goes before the state", x, () -> x.drive(0, 14, 0));
    }

    private static void waysAroundHouses() {
        FireEngines x = new FireEngines();
        x.addEngine(0, 0, 4, 1);
        for (int y = 0; y < 9; y++) {
            x.build(1, y, 1, 1);
        }
        Check.same("around the houses", x.drive(0, 2, 0), 20);
        x.pass(20);
        x.dig(1, 9, 1);
        Check.noState("ponds close the way", x, () -> x.drive(0, 0, 0));
        Check.noState("corners do not join streets", x, () -> x.drive(0, 0, 9));
        x.light(8, 99);
        x.pass(1);
        Check.same("it has fallen", x.house(8, 3), 3);
        Check.noState("no way over a fallen house", x, () -> x.drive(0, 0, 0));
        FireEngines y = new FireEngines();
        y.addEngine(13, 4, 4, 1);
        y.build(12, 4, 1, 1);
        y.build(13, 3, 1, 1);
        y.build(13, 5, 1, 1);
        Check.noState("no way round the edge", y, () -> y.drive(0, 0, 5));
    }

    private static void drivingTakesHosesUp() {
        FireEngines x = new FireEngines();
        for (int i = 0; i < 4; i++) {
            x.addEngine(i, 0, 4, 1);
        }
        x.build(5, 0, 1, 1);
        x.build(6, 0, 1, 1);
        x.relay(0, 1);
        x.relay(2, 1);
        x.aim(1, 0);
        x.aim(3, 1);
        Check.noState("a drive without a way", x, () -> x.drive(1, 6, 0));
        Check.same("takes no hose up", x.engine(1, 6), 100);
        x.drive(1, 1, 1);
        Check.same("its own hose", x.engine(1, 6), -1);
        Check.same("the one that goes to it", x.engine(0, 6), -1);
        Check.same("the other that goes to it", x.engine(2, 6), -1);
        Check.same("not another's, to the house of its number", x.engine(3, 6), 101);
        x.pass(1);
        Check.same("it is not laid again", x.engine(0, 6), -1);
    }

    private static void relay() {
        FireEngines x = new FireEngines();
        x.addEngine(0, 0, 1, 1);
        x.addEngine(0, 0, 1, 1);
        x.addEngine(6, 0, 1, 1);
        x.addEngine(7, 0, 1, 1);
        x.addEngine(3, 3, 1, 1);
        x.addEngine(4, 3, 1, 1);
        Check.same("on the same cell", x.relay(0, 1), 0);
        Check.same("where it goes", x.engine(0, 6), 1);
        Check.same("6 long", x.relay(0, 2), 6);
        Check.same("in the place of the one that it had", x.engine(0, 6), 2);
        Check.noState("7 long", x, () -> x.relay(0, 3));
        Check.same("the one that it had stays then", x.engine(0, 6), 2);
        Check.same("round a corner", x.relay(0, 4), 6);
        Check.noState("round a corner, 7 long", x, () -> x.relay(0, 5));
        Check.same("to engine 0", x.relay(1, 0), 0);
        Check.same("it goes to 0", x.engine(1, 6), 0);
    }

    private static void relayRefuses() {
        FireEngines x = new FireEngines();
        x.addEngine(0, 0, 1, 1);
        x.addEngine(2, 0, 1, 1);
        int[][] wrong = {{-1, 0}, {2, 0}, {0, -1}, {0, 2}, {MIN, MAX}, {0, 100}};
        for (int[] p : wrong) {
            Check.noIndex("relay(" + p[0] + ", " + p[1] + ")", x, () -> x.relay(p[0], p[1]));
        }
        Check.noState("to itself", x, () -> x.relay(0, 0));
        x.drive(0, 1, 0);
        Check.noState("it drives", x, () -> x.relay(0, 1));
        Check.noState("the other drives", x, () -> x.relay(1, 0));
        Check.noIndex("no engine goes before the state", x, () -> x.relay(0, 2));
        x.pass(4);
        Check.same("both stand", x.relay(0, 1), 1);
    }

    private static void noWaterComesBack() {
        FireEngines x = new FireEngines();
        for (int i = 0; i < 4; i++) {
            x.addEngine(i, 0, 1, 1);
        }
        x.relay(0, 1);
        Check.noState("back at once", x, () -> x.relay(1, 0));
        x.relay(1, 2);
        x.relay(2, 3);
        Check.noState("back by two", x, () -> x.relay(2, 0));
        Check.noState("back by three", x, () -> x.relay(3, 0));
        Check.noState("back to the middle", x, () -> x.relay(3, 1));
        Check.same("forward past one", x.relay(0, 3), 3);
        Check.same("now 3 is free of 1", x.engine(1, 6), 2);
        Check.noState("but not of what 2 gives", x, () -> x.relay(3, 2));
        x.takeUp(2);
        Check.same("without that hose it may", x.relay(3, 1), 2);
    }

    private static void aim() {
        FireEngines x = new FireEngines();
        x.addEngine(0, 0, 4, 1);
        x.build(6, 0, 1, 1);
        x.build(7, 0, 1, 1);
        x.build(0, 1, 1, 1);
        int[][] wrong = {{-1, 0}, {1, 0}, {0, -1}, {0, 3}, {0, 100}, {MIN, 0}, {0, MAX}};
        for (int[] p : wrong) {
            Check.noIndex("aim(" + p[0] + ", " + p[1] + ")", x, () -> x.aim(p[0], p[1]));
        }
        Check.same("6 long", x.aim(0, 0), 6);
        Check.same("where it goes", x.engine(0, 6), 100);
        Check.noState("7 long", x, () -> x.aim(0, 1));
        Check.same("the one that it had stays then", x.engine(0, 6), 100);
        Check.same("in the place of the one that it had", x.aim(0, 2), 1);
        Check.same("where it goes then", x.engine(0, 6), 102);
        x.drive(0, 1, 0);
        Check.noState("it drives", x, () -> x.aim(0, 0));
        Check.noIndex("no house goes before the state", x, () -> x.aim(0, 3));
        x.pass(1);
        x.light(0, 99);
        x.pass(1);
        Check.same("it has fallen", x.house(0, 3), 3);
        Check.same("at a fallen house", x.aim(0, 0), 5);
        x.addEngine(1, 1, 1, 1);
        x.relay(0, 1);
        Check.same("a relay in the place of it", x.engine(0, 6), 1);
        x.aim(0, 1);
        Check.same("and it in the place of a relay", x.engine(0, 6), 101);
    }

    private static void takeUp() {
        FireEngines x = new FireEngines();
        Check.noIndex("of none", x, () -> x.takeUp(0));
        x.addEngine(0, 0, 4, 1);
        x.addEngine(1, 0, 4, 1);
        x.build(2, 0, 1, 1);
        for (int engine : new int[] {-1, 2, MIN, MAX}) {
            Check.noIndex("takeUp(" + engine + ")", x, () -> x.takeUp(engine));
        }
        Check.same("none to take up", x.takeUp(0), false);
        x.relay(1, 0);
        x.aim(0, 0);
        Check.same("one to a house", x.takeUp(0), true);
        Check.same("it has gone", x.engine(0, 6), -1);
        Check.same("those that go to it stay", x.engine(1, 6), 0);
        Check.same("only once", x.takeUp(0), false);
        Check.same("one to an engine", x.takeUp(1), true);
        x.drive(0, 5, 5);
        Check.same("while it drives", x.takeUp(0), false);
    }

    private static void engine() {
        FireEngines x = new FireEngines();
        Check.noIndex("of none", x, () -> x.engine(0, 0));
        x.addEngine(3, 3, 2, 7);
        x.dig(4, 4, 1000);
        x.build(2, 3, 1, 60);
        int[][] wrong = {{-1, 0}, {1, 0}, {0, -1}, {0, 10}, {MIN, 0}, {0, MAX}};
        for (int[] p : wrong) {
            Check.noIndex("engine(" + p[0] + ", " + p[1] + ")", x, () -> x.engine(p[0], p[1]));
        }
        x.aim(0, 0);
        x.pass(4);
        Check.same("steam 16", x.engine(0, 4), 16);
        Check.same("pumps nothing with steam 16", x.engine(0, 9), 0);
        x.pass(1);
        int[] due = {45, 2, 7, 55, 18, 0, 100, 0, 7, 0};
        for (int what = 0; what <= 9; what++) {
            Check.same("engine(0, " + what + ")", x.engine(0, what), due[what]);
        }
        x.takeUp(0);
        Check.same("what it gave stays told", x.engine(0, 8), 7);
        x.pass(1);
        Check.same("without a hose it gave nothing", x.engine(0, 8), 0);
        Check.same("7 * 22 / 20", x.engine(0, 9), 7);
        x.pass(1);
        Check.same("7 * 26 / 20", x.engine(0, 9), 9);
        x.drive(0, 5, 3);
        Check.same("it drives yet", x.engine(0, 5), 6);
        Check.same("pumps nothing when it drives", x.engine(0, 9), 0);
        Check.same("sucks from none when it drives", x.engine(0, 7), -1);
        x.pass(6);
        Check.same("can suck there", x.engine(0, 7), 0);
        Check.same("pumps again: 7 * 50 / 20", x.engine(0, 9), 17);
    }

    private static void canSuckFrom() {
        FireEngines x = new FireEngines();
        x.addEngine(5, 5, 4, 20);
        x.dig(7, 5, 10);
        Check.same("two columns away", x.engine(0, 7), -1);
        x.dig(6, 6, 0);
        Check.same("corner to corner, though it is empty", x.engine(0, 7), 1);
        x.dig(5, 4, 10);
        Check.same("the smallest number of two", x.engine(0, 7), 1);
        x.addEngine(6, 5, 4, 20);
        Check.same("the smallest number of three", x.engine(1, 7), 0);
        x.addEngine(0, 1, 4, 20);
        x.dig(13, 0, 10);
        Check.same("not round the edge", x.engine(2, 7), -1);
        x.addEngine(5, 3, 4, 20);
        Check.same("above", x.engine(3, 7), 2);
    }

    private static void pond() {
        FireEngines x = new FireEngines();
        Check.noIndex("of none", x, () -> x.pond(0));
        x.dig(0, 0, 5);
        x.dig(2, 0, 77);
        Check.same("pond 0", x.pond(0), 5);
        Check.same("pond 1", x.pond(1), 77);
        for (int pond : new int[] {-1, 2, MIN, MAX}) {
            Check.noIndex("pond(" + pond + ")", x, () -> x.pond(pond));
        }
    }
}
