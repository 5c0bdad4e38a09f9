/** Towns that several tests begin with. */
final class Towns {
    static final int WHOLE = 0;
    static final int BURNS = 1;
    static final int OUT = 2;
    static final int FALLEN = 3;

    private Towns() {
    }

    /** As many houses, ponds and engines as there can be: engine i stands by pond i alone, 30 houses far from it. */
    static FireEngines full() {
        FireEngines x = new FireEngines();
        for (int i = 0; i < 30; i++) {
            x.build(i % 14, i / 14, 1 + i % 9, 60);
        }
        for (int i = 0; i < 6; i++) {
            x.dig(2 * i, 9, 5000);
            x.addEngine(2 * i, 8, 1 + i % 4, 20);
        }
        return x;
    }

    /** House 0 at (5, 5) in a state, and engine 0 at (4, 5), which stands by pond 0 at (3, 5) and has no hose. */
    static FireEngines withHouse(int state) {
        FireEngines x = new FireEngines();
        x.dig(3, 5, 5000);
        x.addEngine(4, 5, 4, 20);
        x.build(5, 5, 1, state == FALLEN ? 1 : 60);
        x.pass(4);
        if (state == OUT) {
            x.aim(0, 0);
            x.light(0, 1);
            x.pass(1);
            x.takeUp(0);
        } else if (state == FALLEN) {
            x.light(0, 99);
            x.pass(1);
        } else if (state == BURNS) {
            x.light(0, 20);
        }
        Check.same("state of the house", x.house(0, 3), state);
        return x;
    }

    /**
     * An engine of this power by a pond with this water, with its hose to house 0, which is so far away.
     * It has the steam 16: in the next minute it can pump just its power.
     */
    static FireEngines readyToPump(int power, int water, int length) {
        FireEngines x = new FireEngines();
        x.dig(0, 0, water);
        x.addEngine(1, 0, 4, power);
        x.build(1 + length, 0, 1, 60);
        x.pass(4);
        x.aim(0, 0);
        return x;
    }
}
