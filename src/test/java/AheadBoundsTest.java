import java.math.BigInteger;

/** Promises 17 to 22: each sentence that names a boundary has a test of its own, with the sentence above it. */
public final class AheadBoundsTest {
    private static final int MIN = Integer.MIN_VALUE;
    private static final int MAX = Integer.MAX_VALUE;

    public static void main(String[] args) {
        foreseeMinutes();
        foreseeWhat();
        foreseeNamesTheFirstException();
        foreseeToTheMinute();
        foreseeNoneAndAll();
        lastsNone();
        lastsOneAndMore();
        lastsTwoHundred();
        lastsTheFirstTime();
        weakestItself();
        weakestOfARowOfSix();
        weakestOfSeveralIsTheSmallest();
        weakestByWhatItCanPumpNow();
        adviseMinutes();
        adviseNamesTheFirstException();
        adviseNone();
        adviseWhileItDrives();
        adviseInReach();
        adviseOfSeveralIsTheSmallest();
        adviseToTheMinute();
        adviseAll();
        lookingAheadChangesNothing();
        refusedLooksChangeNothing();
        wallsNone();
        wallsMean();
        wallsAllFallen();
        digestOfNothing();
        digestWrapsAround();
        digestOfAll();
        fiveHundredAndTwelveCalls();
        Check.end();
    }

    // ---- promise 17

    /** "Throws IllegalArgumentException if minutes is not 1 to 100". */
    private static void foreseeMinutes() {
        FireEngines x = Towns.withHouse(Towns.BURNS);
        for (int minutes : new int[] {0, 101, -1, MIN, MAX}) {
            for (int what = 0; what <= 2; what++) {
                int asked = what;
                Check.noArgument("foresee " + minutes, x, () -> x.foresee(minutes, asked));
            }
        }
        Check.same("1 minute", x.foresee(1, 2), 21);
        Check.same("100 minutes", x.foresee(100, 1), 1);
    }

    /** "Throws IndexOutOfBoundsException if what is not 0 to 2". */
    private static void foreseeWhat() {
        FireEngines x = Towns.withHouse(Towns.BURNS);
        for (int what : new int[] {-1, 3, MIN, MAX}) {
            Check.noIndex("what " + what, x, () -> x.foresee(1, what));
            Check.noIndex("what " + what, x, () -> x.foresee(100, what));
        }
        Check.same("what 0", x.foresee(1, 0), 1);
        Check.same("what 2", x.foresee(1, 2), 21);
    }

    /** "If several exceptions apply, the one that is named first is thrown": here that of minutes. */
    private static void foreseeNamesTheFirstException() {
        FireEngines x = new FireEngines();
        Check.noArgument("both wrong", x, () -> x.foresee(0, -1));
        Check.noArgument("both wrong", x, () -> x.foresee(101, 3));
        Check.noIndex("what wrong", x, () -> x.foresee(100, 3));
    }

    /** "0 houses that burn then, 1 those that have fallen then, 2 all heat then": to the minute of the fall. */
    private static void foreseeToTheMinute() {
        FireEngines x = new FireEngines();
        x.build(0, 0, 1, 3);
        x.light(0, 1);
        int[][] due = {{1, 0, 2}, {1, 0, 3}, {0, 1, 0}, {0, 1, 0}};
        for (int i = 0; i < due.length; i++) {
            for (int what = 0; what <= 2; what++) {
                Check.same("foresee(" + (i + 1) + ", " + what + ")", x.foresee(i + 1, what), due[i][what]);
            }
        }
    }

    /** Nothing there, and all 30 houses: 60 walls less 4 in each of 15 minutes. */
    private static void foreseeNoneAndAll() {
        FireEngines x = new FireEngines();
        FireEngines full = Towns.full();
        for (int what = 0; what <= 2; what++) {
            Check.same("none", x.foresee(1, what), 0);
            Check.same("none", x.foresee(100, what), 0);
            Check.same("none burns", full.foresee(100, what), 0);
        }
        for (int i = 0; i < 30; i++) {
            full.light(i, 99);
        }
        Check.same("all burn", full.foresee(14, 0), 30);
        Check.same("all heat", full.foresee(14, 2), 30 * 99);
        Check.same("none has fallen", full.foresee(14, 1), 0);
        Check.same("all have fallen", full.foresee(15, 1), 30);
        Check.same("none burns any more", full.foresee(15, 0), 0);
        Check.same("all stand now", full.count(4), 0);
    }

    // ---- promise 18

    /** "0 if none burns now": nothing there, whole ones, one that is out, and one that has fallen. */
    private static void lastsNone() {
        Check.same("nothing there", new FireEngines().lasts(), 0);
        Check.same("whole ones", Towns.full().lasts(), 0);
        Check.same("one that is out", Towns.withHouse(Towns.OUT).lasts(), 0);
        Check.same("a fallen one", Towns.withHouse(Towns.FALLEN).lasts(), 0);
    }

    /** "Returns behind how many minutes no house burns": 1, 2 and 15 at least; the walls are 1, 2 and 60. */
    private static void lastsOneAndMore() {
        int[][] due = {{1, 1, 1}, {2, 1, 2}, {22, 1, 22}, {60, 99, 15}, {57, 99, 15}, {56, 99, 14}};
        for (int[] d : due) {
            FireEngines x = new FireEngines();
            x.build(0, 0, 1, d[0]);
            x.light(0, d[1]);
            Check.same("with walls " + d[0], x.lasts(), d[2]);
        }
        FireEngines y = Towns.readyToPump(20, 5000, 1);
        y.light(0, 1);
        Check.same("put out in the first minute", y.lasts(), 1);
    }

    /** "at most 200"; "-1 if some burn behind all of these": 201 is too long, 200 and 199 are not. */
    private static void lastsTwoHundred() {
        FireEngines x = row();
        x.pass(100);
        x.pass(100);
        int minutes = 200;
        while (minutes < 400 && x.count(2) > 0) {
            x.pass(1);
            minutes++;
        }
        Check.same("it lasts longer than 202", minutes > 202 && minutes < 400, true);
        FireEngines y = row();
        Check.same("at first", y.lasts(), -1);
        for (int i = 0; i < minutes - 202; i++) {
            y.pass(1);
        }
        int[] due = {-1, -1, 200, 199, 198};
        for (int i = 0; i < due.length; i++) {
            Check.same("with " + (202 - i) + " minutes yet", y.lasts(), due[i]);
            y.pass(1);
        }
    }

    /** Houses in a row, of little wood: the fire goes from one to the next for more than 200 minutes. */
    private static FireEngines row() {
        FireEngines x = new FireEngines();
        for (int i = 0; i < 8; i++) {
            x.build(i, 0, 1, 60);
        }
        x.light(0, 1);
        return x;
    }

    /** "for the first time": houses that are to catch fire behind it do not matter, and none does. */
    private static void lastsTheFirstTime() {
        FireEngines x = new FireEngines();
        x.build(5, 5, 1, 5);
        x.build(6, 5, 1, 60);
        x.light(0, 80);
        int lasts = x.lasts();
        x.pass(lasts - 1);
        Check.same("one burns yet", x.count(2) > 0, true);
        Check.same("1 minute yet", x.lasts(), 1);
        x.pass(1);
        Check.same("none burns", x.count(2), 0);
        Check.same("none", x.lasts(), 0);
    }

    // ---- promise 19

    /** "itself counted": alone, with its own hose out, and while it drives. */
    private static void weakestItself() {
        FireEngines x = new FireEngines();
        x.addEngine(0, 0, 4, 1);
        Check.same("the only one", x.weakest(0), 0);
        x.addEngine(1, 0, 4, 20);
        Check.same("without hoses", x.weakest(1), 1);
        x.relay(1, 0);
        Check.same("its own hose does not matter", x.weakest(1), 1);
        x.drive(1, 2, 0);
        Check.same("while it drives", x.weakest(1), 1);
        Check.same("the one that its hose went to", x.weakest(0), 0);
    }

    /** "of those whose water comes to this engine by hoses, one behind the other": one to all six. */
    private static void weakestOfARowOfSix() {
        FireEngines x = new FireEngines();
        for (int i = 0; i < 6; i++) {
            x.addEngine(i, 0, 4, 10 + i);
        }
        x.pass(5);
        for (int i = 0; i < 5; i++) {
            x.relay(i, i + 1);
        }
        for (int i = 0; i < 6; i++) {
            Check.same("the farthest of " + (i + 1), x.weakest(i), 0);
        }
        x.takeUp(0);
        Check.same("one less", x.weakest(5), 1);
        x.relay(0, 2);
        Check.same("by another hose", x.weakest(5), 0);
        Check.same("that does not come here", x.weakest(1), 1);
        for (int i = 0; i < 6; i++) {
            x.takeUp(i);
        }
        for (int i = 5; i > 0; i--) {
            x.relay(i, i - 1);
        }
        for (int i = 0; i < 6; i++) {
            Check.same("itself, all before it are stronger", x.weakest(i), i);
        }
    }

    /** "of several the one with the smallest number": two, and all six, wherever they are in the row. */
    private static void weakestOfSeveralIsTheSmallest() {
        FireEngines x = new FireEngines();
        for (int i = 0; i < 6; i++) {
            x.addEngine(i, 0, 4, i == 2 || i == 4 ? 5 : 6);
        }
        for (int i = 5; i > 0; i--) {
            x.relay(i, i - 1);
        }
        Check.same("all can pump nothing", x.weakest(0), 0);
        Check.same("all behind 3", x.weakest(3), 3);
        x.pass(5);
        Check.same("2 and 4 are even", x.weakest(0), 2);
        Check.same("2 does not come here", x.weakest(3), 4);
        Check.same("5 alone", x.weakest(5), 5);
        x.takeUp(3);
        Check.same("0 and 2: 2 is weaker", x.weakest(0), 2);
        x.takeUp(2);
        Check.same("0 and 1 are even", x.weakest(0), 0);
    }

    /** "the one that can pump the least now": with the steam 20 and 19, and by the cut number. */
    private static void weakestByWhatItCanPumpNow() {
        FireEngines x = new FireEngines();
        x.addEngine(0, 0, 4, 1);
        x.pass(1);
        x.addEngine(1, 0, 4, 20);
        x.relay(1, 0);
        x.pass(4);
        Check.same("steam 20 and 16: 1 and 0", x.weakest(0), 1);
        x.pass(1);
        Check.same("steam 24 and 20: 1 and 20", x.weakest(0), 0);
        FireEngines y = new FireEngines();
        y.addEngine(0, 0, 4, 1);
        y.pass(4);
        y.addEngine(1, 0, 4, 1);
        y.relay(1, 0);
        y.pass(5);
        Check.same("1 * 36 / 20 is as little as 1 * 20 / 20", y.weakest(0), 0);
        y.pass(1);
        Check.same("1 * 40 / 20 is more than 1 * 24 / 20", y.weakest(0), 1);
    }

    // ---- promise 20

    /** "Throws IllegalArgumentException if minutes is not 1 to 50". */
    private static void adviseMinutes() {
        FireEngines x = Towns.withHouse(Towns.BURNS);
        for (int minutes : new int[] {0, 51, 100, -1, MIN, MAX}) {
            Check.noArgument("advise in " + minutes, x, () -> x.advise(0, minutes));
        }
        Check.same("1 minute", x.advise(0, 1), 0);
        Check.same("50 minutes", x.advise(0, 50), 0);
    }

    /** "If several exceptions apply, the one that is named first is thrown": here that of the engine. */
    private static void adviseNamesTheFirstException() {
        FireEngines x = new FireEngines();
        Check.noIndex("no engine, no minutes", x, () -> x.advise(0, 0));
        x.addEngine(0, 0, 1, 1);
        Check.noIndex("no engine, too many minutes", x, () -> x.advise(1, 51));
        Check.noIndex("no engine, no minutes", x, () -> x.advise(-1, 0));
        x.drive(0, 1, 0);
        Check.noArgument("no minutes, it drives", x, () -> x.advise(0, 0));
        Check.noArgument("too many minutes, it drives", x, () -> x.advise(0, 51));
    }

    /** "-1 if there is none": no house, and none that burns. */
    private static void adviseNone() {
        FireEngines x = new FireEngines();
        x.addEngine(0, 0, 4, 20);
        Check.same("no houses", x.advise(0, 50), -1);
        int[] due = {-1, 0, -1, -1};
        for (int state = Towns.WHOLE; state <= Towns.FALLEN; state++) {
            FireEngines y = Towns.withHouse(state);
            Check.same("one of state " + state, y.advise(0, 1), due[state]);
            y.build(8, 5, 1, 60);
            y.light(1, 20);
            Check.same("and one that burns", y.advise(0, 1), state == Towns.BURNS ? 0 : 1);
        }
    }

    /** "or the engine drives": until the last minute is over. */
    private static void adviseWhileItDrives() {
        FireEngines x = Towns.withHouse(Towns.BURNS);
        x.drive(0, 4, 7);
        Check.same("at once", x.advise(0, 1), -1);
        x.pass(1);
        Check.same("a minute before", x.advise(0, 50), -1);
        x.pass(1);
        Check.same("it stands", x.advise(0, 1), 0);
    }

    /** "(Only houses in reach of its hose.)": 6 away, and 7. */
    private static void adviseInReach() {
        for (int length = 6; length <= 7; length++) {
            for (int columns = 0; columns <= length; columns++) {
                FireEngines x = new FireEngines();
                x.addEngine(0, 0, 4, 20);
                x.build(columns, length - columns, 1, 60);
                x.light(0, 50);
                Check.same(length + " away", x.advise(0, 50), length == 6 ? 0 : -1);
                x.build(0, 1, 1, 60);
                x.light(1, 50);
                Check.same("beside a nearer one", x.advise(0, 1), length == 6 ? 0 : 1);
            }
        }
    }

    /** "of several the one with the smallest number": all even, and the last two alone. */
    private static void adviseOfSeveralIsTheSmallest() {
        FireEngines x = threeFires(60, 60, 60);
        Check.same("none falls", x.advise(0, 1), 0);
        Check.same("all fall but the one", threeFires(6, 6, 6).advise(0, 10), 0);
        Check.same("1 and 2 are even", threeFires(60, 6, 6).advise(0, 10), 1);
        Check.same("0 and 2 are even", threeFires(6, 60, 6).advise(0, 10), 0);
        Check.same("2 alone", threeFires(60, 60, 6).advise(0, 10), 2);
        Check.same("no water can save one", threeFires(1, 1, 1).advise(0, 10), 0);
    }

    /** Three fires in reach of an engine with much water, not near each other; each falls by its walls alone. */
    private static FireEngines threeFires(int walls0, int walls1, int walls2) {
        FireEngines x = new FireEngines();
        x.dig(5, 5, 5000);
        x.addEngine(5, 4, 1, 20);
        x.build(3, 4, 3, walls0);
        x.build(7, 4, 3, walls1);
        x.build(5, 2, 3, walls2);
        x.pass(10);
        for (int i = 0; i < 3; i++) {
            x.light(i, 10);
        }
        return x;
    }

    /** "so that the fewest houses have fallen in so many minutes": the minute of the fall, and the one before. */
    private static void adviseToTheMinute() {
        FireEngines x = threeFires(60, 6, 60);
        Check.same("1 stands in the 4th without water", x.foresee(4, 1), 0);
        Check.same("1 falls in the 5th without water", x.foresee(5, 1), 1);
        Check.same("in 4", x.advise(0, 4), 0);
        Check.same("in 5", x.advise(0, 5), 1);
        FireEngines y = threeFires(60, 60, 6);
        y.build(13, 9, 1, 1);
        y.light(3, 1);
        y.pass(1);
        Check.same("one has fallen before", y.count(4), 1);
        Check.same("in 3", y.advise(0, 3), 0);
        Check.same("in 4", y.advise(0, 4), 2);
    }

    /** As many as there can be: six engines, 30 fires, the last of them in the last one's reach. */
    private static void adviseAll() {
        FireEngines x = Towns.full();
        for (int i = 0; i < 30; i++) {
            x.light(i, 99);
        }
        int[] due = {28, -1, -1, -1, -1, -1};
        for (int i = 0; i < 6; i++) {
            Check.same("advise " + i, x.advise(i, 50), due[i]);
        }
        x.drive(3, 7, 3);
        x.pass(14);
        Check.same("of 16 fires in reach", x.advise(3, 50), 4);
        x.pass(1);
        Check.same("all have fallen", x.advise(3, 50), -1);
    }

    /** "(nothing is changed)": neither what is told, nor what comes. */
    private static void lookingAheadChangesNothing() {
        FireEngines x = threeFires(60, 6, 60);
        FireEngines y = threeFires(60, 6, 60);
        for (FireEngines z : new FireEngines[] {x, y}) {
            z.addEngine(9, 9, 1, 1);
            z.drive(1, 0, 9);
            z.aim(0, 2);
        }
        x.foresee(1, 0);
        x.foresee(100, 1);
        x.foresee(50, 2);
        x.lasts();
        x.weakest(0);
        x.weakest(1);
        x.advise(0, 1);
        x.advise(0, 50);
        x.advise(1, 50);
        x.walls();
        x.digest();
        Check.same("its hose", x.engine(0, 6), 102);
        Check.twins("looking ahead", x, y);
    }

    /** "A method that throws an exception changes nothing." */
    private static void refusedLooksChangeNothing() {
        FireEngines x = threeFires(60, 6, 60);
        Check.noArgument("foresee", x, () -> x.foresee(101, 0));
        Check.noIndex("foresee", x, () -> x.foresee(100, 3));
        Check.noIndex("weakest", x, () -> x.weakest(1));
        Check.noIndex("advise", x, () -> x.advise(1, 50));
        Check.noArgument("advise", x, () -> x.advise(0, 51));
        Check.twins("refused looks", x, threeFires(60, 6, 60));
    }

    // ---- promise 21

    /** "0 if there are none", also when there are ponds and engines. */
    private static void wallsNone() {
        FireEngines x = new FireEngines();
        Check.same("none", x.walls(), 0.0);
        x.dig(0, 0, 5000);
        x.addEngine(1, 0, 4, 20);
        Check.same("no house", x.walls(), 0.0);
    }

    /** "Returns the mean of the walls of all houses": not cut; one, three and 30. */
    private static void wallsMean() {
        FireEngines x = new FireEngines();
        x.build(0, 0, 1, 1);
        Check.same("one", x.walls(), 1.0);
        x.build(1, 0, 1, 60);
        Check.same("two", x.walls(), 30.5);
        x.build(2, 0, 1, 2);
        Check.same("three", x.walls(), 21.0);
        x.build(3, 0, 1, 2);
        Check.same("four", x.walls(), 16.25);
        int sum = 65;
        for (int i = 4; i < 30; i++) {
            x.build(i % 14, i / 14, 1, i);
            sum += i;
            Check.same("of " + (i + 1), x.walls(), (double) sum / (i + 1));
        }
        Check.same("all with 60", Towns.full().walls(), 60.0);
    }

    /** "of all houses": those that have fallen count 0, those that are out count their walls. */
    private static void wallsAllFallen() {
        Check.same("fallen", Towns.withHouse(Towns.FALLEN).walls(), 0.0);
        Check.same("out", Towns.withHouse(Towns.OUT).walls(), 60.0);
        FireEngines x = Towns.withHouse(Towns.FALLEN);
        x.build(9, 9, 1, 7);
        Check.same("a fallen one and one of 7", x.walls(), 3.5);
    }

    // ---- promise 22

    /** "A number d starts with 607": ten numbers of count, all 0, and the first of them 1 behind a minute. */
    private static void digestOfNothing() {
        FireEngines x = new FireEngines();
        Check.same("nothing there", x.digest(), 607L * 31 * 31 * 31 * 31 * 31 * 31 * 31 * 31 * 31 * 31);
        x.pass(1);
        long ninth = 31L * 31 * 31 * 31 * 31 * 31 * 31 * 31 * 31;
        Check.same("behind a minute", x.digest(), (607L * 31 + 1) * ninth);
    }

    /** "which wraps around as a 64-bit integer": above and below, and with -1 among the numbers. */
    private static void digestWrapsAround() {
        int negative = 0;
        int positive = 0;
        for (int engines = 0; engines <= 1; engines++) {
            for (int minutes = 1; minutes <= 20; minutes++) {
                FireEngines x = new FireEngines();
                x.build(0, 0, 1, 60);
                if (engines == 1) {
                    x.addEngine(0, 1, 1, 1);
                }
                x.pass(minutes);
                long d = x.digest();
                Check.same("of a house and engines, " + engines, d, digestOf(x, new int[] {}));
                negative += d < 0 ? 1 : 0;
                positive += d > 0 ? 1 : 0;
            }
        }
        Check.same("some are below 0", negative > 0, true);
        Check.same("some are above 0", positive > 0, true);
    }

    /** "for each house .., for each pond its cell and its water; for each engine .., in its order": of all. */
    private static void digestOfAll() {
        int[] cells = {126, 128, 130, 132, 134, 136};
        FireEngines x = Towns.full();
        Check.same("new", x.digest(), digestOf(x, cells));
        for (int minutes : new int[] {2, 100}) {
            FireEngines y = Towns.full();
            y.aim(0, 28);
            y.relay(1, 0);
            y.light(28, 1);
            y.light(13, 99);
            y.drive(5, 13, 9);
            y.pass(minutes);
            Check.same("behind " + minutes, y.digest(), digestOf(y, cells));
        }
    }

    /** The checksum by numbers without an end, cut to 64 bits behind all of them. */
    private static long digestOf(FireEngines x, int[] pondCells) {
        BigInteger d = BigInteger.valueOf(607);
        for (int what = 0; what <= 9; what++) {
            d = next(d, x.count(what));
        }
        for (int house = 0; house < x.count(1); house++) {
            for (int what = 0; what <= 6; what++) {
                d = next(d, x.house(house, what));
            }
        }
        for (int pond = 0; pond < x.count(5); pond++) {
            d = next(next(d, pondCells[pond]), x.pond(pond));
        }
        for (int engine = 0; engine < x.count(6); engine++) {
            for (int what = 0; what <= 9; what++) {
                d = next(d, x.engine(engine, what));
            }
        }
        return d.longValue();
    }

    private static BigInteger next(BigInteger d, int x) {
        return d.multiply(BigInteger.valueOf(31)).add(BigInteger.valueOf(x));
    }

    /** "An object is used for at most 512 calls": the last of them answers as the document says. */
    private static void fiveHundredAndTwelveCalls() {
        FireEngines x = new FireEngines();
        for (int call = 1; call <= 512; call++) {
            Check.same("call " + call, x.pass(100), 0);
        }
        FireEngines y = new FireEngines();
        for (int call = 1; call < 512; call++) {
            y.pass(100);
        }
        Check.same("the 512th call", y.count(0), 51100);
    }
}
