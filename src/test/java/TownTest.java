/** Promises 1 to 6: a new object, build, dig, light, cell, house. */
public final class TownTest {
    private static final int MIN = Integer.MIN_VALUE;
    private static final int MAX = Integer.MAX_VALUE;

    public static void main(String[] args) {
        newObject();
        build();
        buildRefuses();
        buildWhereEnginesAre();
        atMostThirtyHouses();
        dig();
        digRefuses();
        atMostSixPonds();
        light();
        cell();
        cellRefuses();
        heatNearACell();
        house();
        Check.end();
    }

    private static void newObject() {
        FireEngines x = new FireEngines();
        for (int what = 0; what <= 9; what++) {
            Check.same("new: count(" + what + ")", x.count(what), 0);
        }
        int[] due = {0, -1, 0, 0};
        for (int what = 0; what <= 3; what++) {
            FireEngines y = new FireEngines();
            for (int c = 0; c < 140; c++) {
                Check.same("new: cell " + what, y.cell(c % 14, c / 14, what), due[what]);
            }
        }
        Check.same("new: walls", x.walls(), 0.0);
        Check.same("new: lasts", x.lasts(), 0);
        long d = 607;
        for (int what = 0; what <= 9; what++) {
            d = d * 31;
        }
        Check.same("new: digest", x.digest(), d);
        FireEngines other = new FireEngines();
        other.build(1, 1, 1, 1);
        Check.same("objects share nothing", x.count(1), 0);
    }

    private static void build() {
        FireEngines x = new FireEngines();
        Check.same("build 0", x.build(0, 0, 1, 1), 0);
        Check.same("build 1", x.build(13, 9, 9, 60), 1);
        Check.same("build 2", x.build(13, 0, 5, 30), 2);
        Check.same("build 3", x.build(0, 9, 4, 20), 3);
        Check.same("cell of 1", x.house(1, 0), 139);
        Check.same("cell of 2", x.house(2, 0), 13);
        Check.same("cell of 3", x.house(3, 0), 126);
        Check.same("wood of 1", x.house(1, 1), 9);
        Check.same("walls of 1", x.house(1, 2), 60);
        Check.same("state of 1", x.house(1, 3), 0);
        Check.same("kind of its cell", x.cell(13, 9, 0), 1);
        Check.same("number on its cell", x.cell(13, 9, 1), 1);
        Check.same("houses", x.count(1), 4);
    }

    private static void buildRefuses() {
        FireEngines x = new FireEngines();
        int[][] outside = {{-1, 0}, {14, 0}, {0, -1}, {0, 10}, {MIN, MIN}, {MAX, MAX}, {14, -1}, {-14, 1}};
        for (int[] p : outside) {
            Check.noIndex("build outside", x, () -> x.build(p[0], p[1], 1, 1));
            Check.noIndex("build outside goes before wrong wood", x, () -> x.build(p[0], p[1], 0, 0));
        }
        int[][] wrong = {{0, 1}, {10, 1}, {-1, 1}, {1, 0}, {1, 61}, {1, -1}, {MIN, 1}, {1, MAX}};
        for (int[] p : wrong) {
            Check.noArgument("build with " + p[0] + ", " + p[1], x, () -> x.build(3, 3, p[0], p[1]));
        }
        x.build(3, 3, 1, 1);
        x.dig(4, 3, 1);
        Check.noState("build on a house", x, () -> x.build(3, 3, 1, 1));
        Check.noState("build on a pond", x, () -> x.build(4, 3, 1, 1));
        Check.noArgument("wrong wood goes before the state", x, () -> x.build(3, 3, 10, 1));
        Check.noArgument("wrong walls go before the state", x, () -> x.build(4, 3, 1, 61));
        x.light(0, 99);
        x.pass(1);
        Check.same("it has fallen", x.house(0, 3), 3);
        Check.noState("build on a fallen house", x, () -> x.build(3, 3, 1, 1));
    }

    private static void buildWhereEnginesAre() {
        FireEngines x = new FireEngines();
        x.addEngine(5, 5, 4, 10);
        Check.noState("build on an engine", x, () -> x.build(5, 5, 1, 1));
        Check.noState("dig on an engine", x, () -> x.dig(5, 5, 1));
        x.drive(0, 8, 5);
        Check.noState("build where it began", x, () -> x.build(5, 5, 1, 1));
        Check.noState("build where it drives to", x, () -> x.build(8, 5, 1, 1));
        Check.noState("dig where it drives to", x, () -> x.dig(8, 5, 1));
        Check.same("build on its way", x.build(6, 5, 1, 1), 0);
        x.pass(3);
        Check.same("it arrives all the same", x.engine(0, 0), 78);
        Check.noState("build where it came to", x, () -> x.build(8, 5, 1, 1));
        Check.same("build where it was", x.build(5, 5, 1, 1), 1);
        x.addEngine(1, 0, 4, 10);
        Check.same("an engine that never drove holds no other cell", x.build(0, 0, 1, 1), 2);
        x.drive(0, 9, 5);
        x.pass(1);
        Check.same("nor one that drove away its former goal", x.build(8, 5, 1, 1), 3);
    }

    private static void atMostThirtyHouses() {
        FireEngines x = new FireEngines();
        for (int i = 0; i < 30; i++) {
            Check.same("build", x.build(i % 14, i / 14, 1 + i % 9, 1 + i), i);
        }
        Check.noState("a 31st house", x, () -> x.build(13, 9, 1, 1));
        Check.noArgument("wrong walls go before too many", x, () -> x.build(13, 9, 1, 0));
        Check.same("the walls of the last", x.house(29, 2), 30);
        Check.same("a pond has its room yet", x.dig(13, 9, 1), 0);
    }

    private static void dig() {
        FireEngines x = new FireEngines();
        Check.same("dig 0", x.dig(0, 0, 0), 0);
        Check.same("dig 1", x.dig(13, 9, 5000), 1);
        Check.same("water of 0", x.pond(0), 0);
        Check.same("water of 1", x.pond(1), 5000);
        Check.same("kind", x.cell(13, 9, 0), 2);
        Check.same("number", x.cell(13, 9, 1), 1);
        Check.same("ponds", x.count(5), 2);
        Check.same("all water", x.count(7), 5000);
    }

    private static void digRefuses() {
        FireEngines x = new FireEngines();
        int[][] outside = {{-1, 0}, {14, 0}, {0, -1}, {0, 10}, {MIN, 0}, {0, MAX}};
        for (int[] p : outside) {
            Check.noIndex("dig outside", x, () -> x.dig(p[0], p[1], 1));
            Check.noIndex("dig outside goes before wrong water", x, () -> x.dig(p[0], p[1], -1));
        }
        for (int water : new int[] {-1, 5001, MIN, MAX}) {
            Check.noArgument("dig with " + water, x, () -> x.dig(0, 0, water));
        }
        x.build(3, 3, 1, 1);
        x.dig(4, 3, 1);
        Check.noState("dig on a house", x, () -> x.dig(3, 3, 1));
        Check.noState("dig on a pond", x, () -> x.dig(4, 3, 1));
        Check.noArgument("wrong water goes before the state", x, () -> x.dig(4, 3, 5001));
    }

    private static void atMostSixPonds() {
        FireEngines x = new FireEngines();
        for (int i = 0; i < 6; i++) {
            Check.same("dig", x.dig(i, i, i), i);
        }
        Check.noState("a 7th pond", x, () -> x.dig(13, 9, 1));
        Check.noArgument("wrong water goes before too many", x, () -> x.dig(13, 9, -1));
        Check.same("a house has its room yet", x.build(13, 9, 1, 1), 0);
    }

    private static void light() {
        FireEngines x = new FireEngines();
        Check.noIndex("light none", x, () -> x.light(0, 1));
        x.build(0, 0, 1, 1);
        x.build(5, 5, 1, 60);
        x.build(9, 9, 9, 60);
        for (int house : new int[] {-1, 3, MIN, MAX}) {
            Check.noIndex("light " + house, x, () -> x.light(house, 1));
            Check.noIndex("no house goes before wrong heat", x, () -> x.light(house, 0));
        }
        for (int heat : new int[] {0, 100, -5, MIN, MAX}) {
            Check.noArgument("light with " + heat, x, () -> x.light(0, heat));
        }
        Check.same("light 0", x.light(0, 1), 1);
        Check.same("light 2", x.light(2, 99), 2);
        Check.same("heat of 0", x.house(0, 4), 1);
        Check.same("heat of 2", x.house(2, 4), 99);
        Check.same("state of 2", x.house(2, 3), 1);
        Check.noState("light a burning one", x, () -> x.light(0, 1));
        Check.noArgument("wrong heat goes before the state", x, () -> x.light(0, 100));
        x.pass(1);
        Check.noState("light a fallen one", x, () -> x.light(0, 1));
        Check.same("light 1: fallen ones do not burn", x.light(1, 50), 2);
        lightOneThatIsOut();
    }

    private static void lightOneThatIsOut() {
        FireEngines x = new FireEngines();
        x.dig(0, 0, 100);
        x.addEngine(1, 0, 1, 20);
        x.build(2, 0, 1, 60);
        x.aim(0, 0);
        x.pass(4);
        x.light(0, 1);
        x.pass(1);
        Check.same("it is out", x.house(0, 3), 2);
        Check.noState("light one that is out", x, () -> x.light(0, 1));
    }

    private static void cell() {
        FireEngines x = new FireEngines();
        x.build(2, 3, 1, 1);
        x.build(4, 3, 1, 1);
        x.dig(5, 6, 9);
        x.addEngine(7, 7, 1, 1);
        x.addEngine(7, 7, 4, 1);
        Check.same("a house", x.cell(2, 3, 0), 1);
        Check.same("its number", x.cell(2, 3, 1), 0);
        Check.same("another's number", x.cell(4, 3, 1), 1);
        Check.same("a pond", x.cell(5, 6, 0), 2);
        Check.same("its number", x.cell(5, 6, 1), 0);
        Check.same("a street", x.cell(7, 7, 0), 0);
        Check.same("its number", x.cell(7, 7, 1), -1);
        Check.same("engines there", x.cell(7, 7, 2), 2);
        Check.same("engines elsewhere", x.cell(7, 6, 2), 0);
        x.drive(1, 9, 7);
        Check.same("one that drives counts as where it began", x.cell(7, 7, 2), 2);
        Check.same("and not at its goal", x.cell(9, 7, 2), 0);
        x.pass(1);
        Check.same("nor on its way", x.cell(8, 7, 2), 0);
        x.pass(1);
        Check.same("it has gone", x.cell(7, 7, 2), 1);
        Check.same("it has come", x.cell(9, 7, 2), 1);
        x.light(0, 1);
        x.pass(1);
        Check.same("a fallen house is no street", x.cell(2, 3, 0), 1);
        Check.same("and keeps its number", x.cell(2, 3, 1), 0);
    }

    private static void cellRefuses() {
        FireEngines x = new FireEngines();
        int[][] wrong = {{-1, 0, 0}, {14, 0, 0}, {0, -1, 0}, {0, 10, 0}, {0, 0, -1}, {0, 0, 4},
            {MIN, 0, 0}, {0, MAX, 3}, {0, 0, MIN}, {0, 0, MAX}};
        for (int[] p : wrong) {
            Check.noIndex("cell", x, () -> x.cell(p[0], p[1], p[2]));
        }
    }

    private static void heatNearACell() {
        FireEngines x = new FireEngines();
        x.build(5, 5, 9, 60);
        x.build(6, 6, 9, 60);
        x.build(5, 7, 9, 1);
        x.build(13, 1, 9, 60);
        x.light(0, 10);
        x.light(1, 20);
        x.light(3, 50);
        Check.same("both near", x.cell(5, 6, 3), 30);
        Check.same("not itself", x.cell(5, 5, 3), 20);
        Check.same("corner to corner", x.cell(6, 6, 3), 10);
        Check.same("two columns away", x.cell(7, 5, 3), 20);
        Check.same("two rows away", x.cell(5, 3, 3), 0);
        Check.same("not round the edge", x.cell(0, 1, 3), 0);
        Check.same("not round the edge", x.cell(0, 2, 3), 0);
        Check.same("whole ones have no heat", x.cell(4, 8, 3), 0);
        x.light(2, 7);
        Check.same("all three", x.cell(5, 6, 3), 37);
        x.pass(1);
        Check.same("it has fallen", x.house(2, 3), 3);
        Check.same("fallen ones have no heat", x.cell(4, 8, 3), 0);
    }

    private static void house() {
        FireEngines x = new FireEngines();
        Check.noIndex("house of none", x, () -> x.house(0, 0));
        x.build(3, 2, 4, 12);
        x.build(9, 2, 5, 13);
        int[] whole = {31, 4, 12, 0, 0, 0, 0};
        for (int what = 0; what <= 6; what++) {
            Check.same("house(0, " + what + ")", x.house(0, what), whole[what]);
        }
        x.light(0, 21);
        x.pass(1);
        int[] burning = {31, 4, 10, 1, 25, 0, 0};
        for (int what = 0; what <= 6; what++) {
            Check.same("burning: house(0, " + what + ")", x.house(0, what), burning[what]);
        }
        int[][] wrong = {{-1, 0}, {2, 0}, {0, -1}, {0, 7}, {MIN, 0}, {MAX, 0}, {0, MIN}, {0, MAX}};
        for (int[] p : wrong) {
            Check.noIndex("house(" + p[0] + ", " + p[1] + ")", x, () -> x.house(p[0], p[1]));
        }
    }
}
