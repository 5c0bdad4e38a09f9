/** Promises 15 and 16, and what a minute does in its six steps. */
public final class MinutesTest {
    private static final int MIN = Integer.MIN_VALUE;
    private static final int MAX = Integer.MAX_VALUE;

    public static void main(String[] args) {
        passRefuses();
        countRefuses();
        minutesAreCounted();
        steam();
        standsBeforeWaterMoves();
        oneEngineAndAHouse();
        waterLostOnTheWay();
        givingCostsSteam();
        withoutAHoseNothingIsSucked();
        relayOfTwo();
        whatComesGoesBeforeSucking();
        askedByNumbers();
        askedBehindThoseThatGive();
        tooLittleSteam();
        branches();
        heatAndWalls();
        heatAtMost99();
        outByWater();
        waterOnOtherHouses();
        catchesAtForty();
        waterKeepsFromCatching();
        allCatchAtOnce();
        fallenAndOutHeatNothing();
        counts();
        Check.end();
    }

    private static void passRefuses() {
        FireEngines x = new FireEngines();
        for (int minutes : new int[] {0, -1, 101, MIN, MAX}) {
            Check.noArgument("pass(" + minutes + ")", x, () -> x.pass(minutes));
        }
    }

    private static void countRefuses() {
        FireEngines x = new FireEngines();
        for (int what : new int[] {-1, 10, MIN, MAX}) {
            Check.noIndex("count(" + what + ")", x, () -> x.count(what));
        }
    }

    private static void minutesAreCounted() {
        FireEngines x = new FireEngines();
        Check.same("nothing to catch fire", x.pass(1), 0);
        Check.same("minute 1", x.count(0), 1);
        x.pass(100);
        Check.same("minute 101", x.count(0), 101);
    }

    private static void steam() {
        FireEngines x = new FireEngines();
        x.addEngine(0, 0, 1, 13);
        int coal = 60;
        int steam = 0;
        for (int minute = 1; minute <= 100; minute++) {
            x.pass(1);
            steam = coal > 0 ? steam + 4 : steam - 3;
            steam = steam > 100 ? 100 : steam < 0 ? 0 : steam;
            coal = coal > 0 ? coal - 1 : 0;
            Check.same("coal at " + minute, x.engine(0, 3), coal);
            Check.same("steam at " + minute, x.engine(0, 4), steam);
            Check.same("can pump at " + minute, x.engine(0, 9), steam < 20 ? 0 : 13 * steam / 20);
        }
        Check.same("the steam is gone in the end", x.engine(0, 4), 0);
        FireEngines y = new FireEngines();
        y.addEngine(0, 0, 1, 1);
        y.drive(0, 13, 9);
        y.pass(10);
        Check.same("steam while it drives", y.engine(0, 4), 40);
        Check.same("coal while it drives", y.engine(0, 3), 50);
        y.pass(50);
        Check.same("the last coal gives steam", y.engine(0, 4), 100);
        y.pass(1);
        Check.same("without coal", y.engine(0, 4), 97);
    }

    private static void standsBeforeWaterMoves() {
        FireEngines x = new FireEngines();
        x.dig(0, 0, 100);
        x.build(0, 1, 1, 60);
        x.addEngine(1, 1, 4, 20);
        x.aim(0, 0);
        x.pass(5);
        Check.same("water came", x.house(0, 5), 20);
        x.drive(0, 1, 0);
        x.pass(1);
        Check.same("its hose is up when it comes", x.engine(0, 8), 0);
        Check.same("no water came", x.house(0, 5), 0);
        Check.same("water in all", x.house(0, 6), 20);
        x.aim(0, 0);
        x.pass(1);
        Check.same("it gives again: 20 * 26 / 20", x.engine(0, 8), 26);
    }

    private static void oneEngineAndAHouse() {
        FireEngines x = new FireEngines();
        x.dig(0, 0, 33);
        x.addEngine(1, 0, 1, 20);
        x.build(2, 0, 1, 60);
        x.aim(0, 0);
        x.pass(4);
        Check.same("with steam 16 nothing", x.engine(0, 8), 0);
        Check.same("the pond is as it was", x.pond(0), 33);
        x.pass(1);
        Check.same("with steam 20", x.engine(0, 8), 20);
        Check.same("the pond has less", x.pond(0), 13);
        Check.same("came to the house", x.house(0, 5), 20);
        x.pass(1);
        Check.same("as far as the pond has water", x.engine(0, 8), 13);
        Check.same("the pond is empty", x.pond(0), 0);
        Check.same("came to the house", x.house(0, 5), 13);
        Check.same("in all", x.house(0, 6), 33);
        x.pass(1);
        Check.same("no water", x.engine(0, 8), 0);
        Check.same("none came", x.house(0, 5), 0);
        Check.same("in all", x.house(0, 6), 33);
        Check.same("it can suck there still", x.engine(0, 7), 0);
    }

    private static void waterLostOnTheWay() {
        int[] due = {0, 17, 16, 16, 14, 14, 12};
        for (int length = 1; length <= 6; length++) {
            FireEngines x = new FireEngines();
            x.dig(0, 0, 1000);
            x.addEngine(1, 0, 1, 17);
            x.build(1 + length, 0, 1, 60);
            Check.same("length", x.aim(0, 0), length);
            x.pass(5);
            Check.same("given", x.engine(0, 8), 17);
            Check.same("came over " + length, x.house(0, 5), due[length]);
            Check.same("the pond lost all that was given", x.pond(0), 983);
        }
        FireEngines y = new FireEngines();
        y.dig(0, 0, 1000);
        y.addEngine(1, 0, 1, 9);
        y.build(3, 0, 1, 60);
        y.aim(0, 0);
        y.pass(5);
        Check.same("9 / 10 is nothing lost", y.house(0, 5), 9);
    }

    private static void givingCostsSteam() {
        FireEngines x = new FireEngines();
        x.dig(0, 0, 15);
        x.addEngine(1, 0, 1, 10);
        x.build(2, 0, 1, 60);
        x.aim(0, 0);
        x.pass(5);
        Check.same("20 less 2", x.engine(0, 4), 18);
        x.pass(1);
        Check.same("it gave 5 yet", x.engine(0, 8), 5);
        Check.same("22 less 2", x.engine(0, 4), 20);
        x.pass(1);
        Check.same("it gave nothing", x.engine(0, 8), 0);
        Check.same("so it has 24", x.engine(0, 4), 24);
        x.pass(19);
        Check.same("full steam", x.engine(0, 4), 100);
        x.dig(1, 1, 1000);
        x.pass(1);
        Check.same("the empty pond has the smaller number", x.engine(0, 8), 0);
        FireEngines y = new FireEngines();
        y.dig(0, 0, 5000);
        y.addEngine(1, 0, 1, 1);
        y.build(2, 0, 1, 60);
        y.pass(30);
        y.aim(0, 0);
        y.pass(1);
        Check.same("at most 100, and 2 less behind the water", y.engine(0, 4), 98);
        Check.same("1 * 100 / 20", y.engine(0, 8), 5);
        FireEngines z = new FireEngines();
        z.dig(0, 0, 1);
        z.addEngine(1, 0, 1, 1);
        z.build(2, 0, 1, 60);
        z.aim(0, 0);
        z.pass(5);
        Check.same("1 given", z.engine(0, 8), 1);
        Check.same("costs as much", z.engine(0, 4), 18);
    }

    private static void withoutAHoseNothingIsSucked() {
        FireEngines x = new FireEngines();
        x.dig(0, 0, 100);
        x.addEngine(1, 0, 1, 20);
        x.pass(10);
        Check.same("the pond", x.pond(0), 100);
        Check.same("gave", x.engine(0, 8), 0);
        Check.same("steam", x.engine(0, 4), 40);
        x.addEngine(3, 0, 1, 20);
        x.relay(0, 1);
        x.pass(1);
        Check.same("20 * 44 / 20 into the hose", x.engine(0, 8), 44);
        Check.same("what came to 1 is lost", x.engine(1, 8), 0);
        x.build(4, 0, 1, 60);
        x.takeUp(0);
        x.aim(1, 0);
        x.pass(5);
        Check.same("it was not kept", x.house(0, 6), 0);
    }

    private static void relayOfTwo() {
        FireEngines x = new FireEngines();
        x.dig(0, 0, 1000);
        x.addEngine(1, 0, 1, 10);
        x.addEngine(3, 0, 1, 4);
        x.build(4, 0, 1, 60);
        x.relay(0, 1);
        x.aim(1, 0);
        x.pass(5);
        Check.same("0 gave", x.engine(0, 8), 10);
        Check.same("1 gave what it can pump", x.engine(1, 8), 4);
        Check.same("came", x.house(0, 5), 4);
        Check.same("the rest is lost", x.pond(0), 990);
        Check.same("both have less steam", x.engine(0, 4) + 100 * x.engine(1, 4), 1818);
        x.pass(1);
        Check.same("0 gave 10 * 22 / 20", x.engine(0, 8), 11);
        Check.same("1 gave 4 * 22 / 20", x.engine(1, 8), 4);
        Check.same("in all", x.house(0, 6), 8);
        FireEngines y = new FireEngines();
        y.dig(0, 0, 1000);
        y.addEngine(1, 0, 1, 10);
        y.addEngine(5, 0, 1, 20);
        y.build(9, 0, 1, 60);
        y.relay(0, 1);
        y.aim(1, 0);
        y.pass(5);
        Check.same("1 gave 10 less 10 * 2 / 10", y.engine(1, 8), 8);
        Check.same("came 8 less 8 * 2 / 10", y.house(0, 5), 7);
    }

    private static void whatComesGoesBeforeSucking() {
        FireEngines x = new FireEngines();
        x.dig(0, 0, 1000);
        x.dig(3, 1, 100);
        x.addEngine(1, 0, 1, 10);
        x.addEngine(3, 0, 1, 20);
        x.build(4, 0, 1, 60);
        x.relay(0, 1);
        x.aim(1, 0);
        x.pass(5);
        Check.same("9 came, 11 sucked", x.engine(1, 8), 20);
        Check.same("its pond", x.pond(1), 89);
        Check.same("the other pond", x.pond(0), 990);
        FireEngines y = new FireEngines();
        y.dig(0, 0, 1000);
        y.dig(3, 1, 100);
        y.addEngine(1, 0, 1, 20);
        y.addEngine(3, 0, 1, 5);
        y.build(4, 0, 1, 60);
        y.relay(0, 1);
        y.aim(1, 0);
        y.pass(5);
        Check.same("more came than it can pump", y.engine(1, 8), 5);
        Check.same("it sucks nothing and gives nothing back", y.pond(1), 100);
    }

    private static void askedByNumbers() {
        FireEngines x = new FireEngines();
        x.dig(1, 1, 25);
        x.addEngine(0, 0, 1, 20);
        x.addEngine(2, 0, 1, 20);
        x.build(0, 1, 1, 60);
        x.build(2, 1, 1, 60);
        x.aim(1, 1);
        x.aim(0, 0);
        x.pass(5);
        Check.same("the smaller number first", x.engine(0, 8), 20);
        Check.same("the other has the rest", x.engine(1, 8), 5);
    }

    private static void askedBehindThoseThatGive() {
        FireEngines x = new FireEngines();
        x.dig(1, 1, 25);
        x.addEngine(0, 0, 1, 20);
        x.addEngine(1, 0, 1, 20);
        x.build(0, 1, 1, 60);
        x.relay(1, 0);
        x.aim(0, 0);
        x.pass(5);
        Check.same("1 is asked first", x.engine(1, 8), 20);
        Check.same("0 gives what came", x.engine(0, 8), 20);
        Check.same("and need not suck", x.pond(0), 5);
        againstTheNumbers();
        chosenAnewEachTime();
    }

    /** 2 gives to 0, and 0 to 1: asked as 2, 0, 1. */
    private static void againstTheNumbers() {
        FireEngines x = new FireEngines();
        x.dig(0, 0, 100);
        x.addEngine(2, 0, 1, 9);
        x.addEngine(3, 0, 1, 8);
        x.addEngine(1, 0, 1, 10);
        x.build(4, 0, 1, 60);
        x.relay(2, 0);
        x.relay(0, 1);
        x.aim(1, 0);
        x.pass(5);
        Check.same("2 gave", x.engine(2, 8), 10);
        Check.same("0 gave", x.engine(0, 8), 9);
        Check.same("1 gave", x.engine(1, 8), 8);
        Check.same("came", x.house(0, 5), 8);
    }

    /** 0 waits for 2: 1 is asked, then 2, then 0 goes before 3, though 3 waited for nobody. */
    private static void chosenAnewEachTime() {
        FireEngines x = new FireEngines();
        x.dig(5, 5, 45);
        x.addEngine(4, 4, 1, 20);
        x.addEngine(5, 4, 1, 20);
        x.addEngine(6, 4, 1, 10);
        x.addEngine(4, 5, 1, 20);
        x.build(4, 3, 1, 60);
        x.build(5, 3, 1, 60);
        x.build(4, 6, 1, 60);
        x.relay(2, 0);
        x.aim(0, 0);
        x.aim(1, 1);
        x.aim(3, 2);
        x.pass(5);
        Check.same("1 sucks 20 of 45", x.engine(1, 8), 20);
        Check.same("2 sucks 10 of 25", x.engine(2, 8), 10);
        Check.same("9 came to 0, and it sucks 11 of 15", x.engine(0, 8), 20);
        Check.same("3 sucks the last 4", x.engine(3, 8), 4);
        Check.same("the pond", x.pond(0), 0);
    }

    private static void tooLittleSteam() {
        FireEngines x = new FireEngines();
        x.dig(0, 0, 1000);
        x.addEngine(1, 0, 1, 10);
        x.pass(3);
        x.addEngine(2, 0, 1, 10);
        x.build(3, 0, 1, 60);
        x.relay(0, 1);
        x.aim(1, 0);
        x.pass(2);
        Check.same("0 gives", x.engine(0, 8), 10);
        Check.same("1 has no steam for it", x.engine(1, 8), 0);
        Check.same("it keeps its steam", x.engine(1, 4), 8);
        Check.same("nothing came", x.house(0, 6), 0);
    }

    private static void branches() {
        FireEngines x = new FireEngines();
        x.dig(0, 0, 1000);
        x.addEngine(1, 0, 1, 6);
        x.addEngine(1, 1, 1, 7);
        x.addEngine(2, 0, 1, 20);
        x.addEngine(2, 1, 1, 3);
        x.build(3, 0, 1, 60);
        x.relay(0, 2);
        x.relay(1, 2);
        x.aim(2, 0);
        x.aim(3, 0);
        x.pass(5);
        Check.same("6 and 6 of 7 came together", x.engine(2, 8), 13 - 7 / 10);
        Check.same("3 is by no pond", x.engine(3, 8), 0);
        x.dig(3, 2, 100);
        x.pass(1);
        Check.same("two hoses to a house", x.house(0, 5), 13 + 3);
        Check.same("3 has spent steam now alone", x.engine(3, 4), 22);
    }

    private static void heatAndWalls() {
        FireEngines x = new FireEngines();
        x.build(0, 0, 5, 9);
        x.light(0, 14);
        int[][] due = {{19, 8}, {24, 7}, {29, 5}, {34, 3}, {39, 1}};
        for (int i = 0; i < due.length; i++) {
            x.pass(1);
            Check.same("heat " + i, x.house(0, 4), due[i][0]);
            Check.same("walls " + i, x.house(0, 2), due[i][1]);
            Check.same("it burns", x.house(0, 3), 1);
        }
        x.pass(1);
        Check.same("walls are at least 0", x.house(0, 2), 0);
        Check.same("it has fallen", x.house(0, 3), 3);
        Check.same("no heat", x.house(0, 4), 0);
        x.pass(1);
        Check.same("it stays so", x.house(0, 3), 3);
        FireEngines y = new FireEngines();
        y.build(0, 0, 1, 2);
        y.light(0, 24);
        y.pass(1);
        Check.same("2 less 1 and 25 / 25", y.house(0, 3), 3);
        FireEngines z = new FireEngines();
        z.build(0, 0, 1, 2);
        z.light(0, 23);
        z.pass(1);
        Check.same("2 less 1", z.house(0, 2), 1);
    }

    private static void heatAtMost99() {
        FireEngines x = new FireEngines();
        x.build(0, 0, 9, 60);
        x.light(0, 89);
        x.pass(1);
        Check.same("98", x.house(0, 4), 98);
        x.pass(1);
        Check.same("at most 99", x.house(0, 4), 99);
        Check.same("60 less 4 less 4", x.house(0, 2), 52);
        FireEngines y = new FireEngines();
        y.dig(0, 0, 1000);
        y.addEngine(1, 0, 1, 19);
        y.build(2, 0, 9, 60);
        y.aim(0, 0);
        y.pass(4);
        y.light(0, 99);
        y.pass(1);
        Check.same("99 and 9 less 19 / 4 is above 99 yet", y.house(0, 4), 99);
    }

    private static void outByWater() {
        for (int heat = 1; heat <= 5; heat++) {
            FireEngines x = new FireEngines();
            x.dig(0, 0, 1000);
            x.addEngine(1, 0, 1, 19);
            x.build(2, 0, 1, 60);
            x.aim(0, 0);
            x.pass(4);
            x.light(0, heat);
            x.pass(1);
            Check.same("19 came", x.house(0, 5), 19);
            boolean out = heat + 1 - 4 <= 0;
            Check.same("state of heat " + heat, x.house(0, 3), out ? 2 : 1);
            Check.same("heat of " + heat, x.house(0, 4), out ? 0 : heat + 1 - 4);
            Check.same("walls of " + heat, x.house(0, 2), out ? 60 : 59);
            x.takeUp(0);
            x.pass(1);
            Check.same("later", x.house(0, 3), out ? 2 : 1);
        }
    }

    private static void waterOnOtherHouses() {
        FireEngines x = new FireEngines();
        x.dig(0, 0, 1000);
        x.addEngine(1, 0, 4, 20);
        x.build(2, 0, 1, 1);
        x.aim(0, 0);
        x.pass(5);
        Check.same("a whole house takes water", x.house(0, 6), 20);
        Check.same("and stays whole", x.house(0, 3), 0);
        x.takeUp(0);
        x.light(0, 50);
        x.pass(1);
        x.aim(0, 0);
        x.pass(1);
        Check.same("a fallen one too", x.house(0, 5), 26);
        Check.same("all water that came", x.count(9), 46);
        Check.same("it stays fallen", x.house(0, 3), 3);
    }

    private static void catchesAtForty() {
        FireEngines x = new FireEngines();
        x.build(5, 5, 1, 60);
        x.build(6, 6, 3, 60);
        x.light(0, 38);
        Check.same("39 is too little", x.pass(1), 0);
        Check.same("still whole", x.house(1, 3), 0);
        Check.same("40 is enough", x.pass(1), 1);
        Check.same("it burns", x.house(1, 3), 1);
        Check.same("with the heat 5", x.house(1, 4), 5);
        Check.same("its walls are whole yet", x.house(1, 2), 60);
        x.pass(1);
        Check.same("then it goes on", x.house(1, 4), 8);
        FireEngines y = new FireEngines();
        y.build(5, 5, 1, 60);
        y.build(6, 5, 1, 60);
        y.build(7, 5, 1, 60);
        y.light(0, 19);
        y.light(2, 19);
        Check.same("20 and 20 added", y.pass(1), 1);
        FireEngines z = new FireEngines();
        z.build(13, 5, 1, 60);
        z.build(0, 6, 1, 60);
        z.build(11, 5, 1, 60);
        z.light(0, 90);
        Check.same("none that is not near", z.pass(3), 0);
    }

    private static void waterKeepsFromCatching() {
        for (int heat = 49; heat <= 52; heat++) {
            FireEngines x = new FireEngines();
            x.dig(0, 0, 1000);
            x.addEngine(1, 0, 1, 11);
            x.build(2, 0, 1, 60);
            x.build(3, 0, 1, 60);
            x.aim(0, 0);
            x.pass(4);
            x.light(1, heat);
            Check.same("heat " + (heat + 1) + " less 11", x.pass(1), heat + 1 - 11 >= 40 ? 1 : 0);
        }
    }

    private static void allCatchAtOnce() {
        FireEngines x = new FireEngines();
        for (int i = 0; i < 5; i++) {
            x.build(i, 5, 1, 60);
        }
        x.light(2, 50);
        Check.same("both beside it", x.pass(1), 2);
        Check.same("0 not yet", x.house(0, 3), 0);
        Check.same("4 not yet", x.house(4, 3), 0);
        FireEngines y = new FireEngines();
        y.build(0, 5, 1, 60);
        y.build(1, 5, 1, 60);
        y.build(2, 5, 1, 60);
        y.build(1, 6, 1, 60);
        y.light(0, 34);
        Check.same("the new heat of 5 must not count at once", y.pass(6), 2);
        Check.same("2 is whole", y.house(2, 3), 0);
    }

    private static void fallenAndOutHeatNothing() {
        FireEngines x = new FireEngines();
        x.build(0, 5, 9, 4);
        x.build(1, 5, 1, 60);
        x.light(0, 90);
        Check.same("it falls in that minute, so nothing catches", x.pass(1), 0);
        Check.same("it has fallen", x.house(0, 3), 3);
        FireEngines y = new FireEngines();
        y.build(0, 5, 9, 5);
        y.build(1, 5, 1, 60);
        y.light(0, 31);
        Check.same("by the heat behind step 4", y.pass(1), 1);
    }

    private static void counts() {
        FireEngines x = new FireEngines();
        x.dig(0, 0, 1000);
        x.dig(13, 9, 7);
        x.addEngine(1, 0, 1, 20);
        x.build(2, 0, 1, 60);
        x.build(8, 8, 3, 60);
        x.build(4, 8, 9, 1);
        x.build(10, 4, 4, 60);
        x.build(2, 5, 4, 60);
        x.aim(0, 0);
        x.pass(4);
        x.light(0, 1);
        x.light(1, 30);
        x.light(2, 10);
        x.light(3, 44);
        x.pass(1);
        int[] due = {5, 5, 2, 1, 1, 2, 1, 987, 33 + 48, 20};
        for (int what = 0; what <= 9; what++) {
            Check.same("count(" + what + ")", x.count(what), due[what]);
        }
    }
}
