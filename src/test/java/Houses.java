/** Houses and parts of them that several tests build. */
final class Houses {
    /** The largest house: no numbers k of 2 .. 4 have a greater product of at most 20000. */
    static final int MOST_CODES = 19683;

    private Houses() { }

    /** PROPS of so many STATES each, 0 at FIRST. */
    static LockedHouse of(int... states) {
        LockedHouse x = new LockedHouse();
        for (int k : states) {
            x.prop(k, 0);
        }
        return x;
    }

    static LockedHouse alike(int props, int k) {
        LockedHouse x = new LockedHouse();
        for (int p = 0; p < props; p++) {
            x.prop(k, 0);
        }
        return x;
    }

    static LockedHouse largest() {
        return alike(9, 3);
    }

    /** A STEP by which PROP 0 goes from one STATE to another. */
    static int go(LockedHouse x, int ticks, int from, int to) {
        int s = x.step(0, 1, ticks, 0);
        x.need(s, 0, from);
        x.give(s, 0, to);
        return s;
    }

    /** A STEP of a KIND that asks for nothing and gives nothing. */
    static int idleStep(LockedHouse x, int kind) {
        return x.step(kind, 1, 1, 0);
    }

    /** A PROP can't have two STATES, so no CODE is THE END. */
    static void neverEnds(LockedHouse x) {
        x.goal(0, 0);
        x.goal(0, 1);
    }

    /** PROP 0 goes 0, 1, 2, THE END 3 by STEPS 0, 1, 2 in ROOMS 0, 1, 2; STEP 3 for three in ROOM 3; STEP 4 ONCE in ROOM 0. */
    static LockedHouse corridor() {
        LockedHouse x = of(4, 2);
        x.goal(0, 3);
        for (int s = 0; s < 3; s++) {
            x.step(0, 1, 10 + s, s);
            x.need(s, 0, s);
            x.give(s, 0, s + 1);
        }
        x.step(0, 3, 5, 3);
        x.give(3, 1, 1);
        x.step(2, 1, 7, 0);
        return x;
    }

    /** GROUP 3 plays alone. */
    static void lastGroupPlays(LockedHouse x) {
        for (int g = 0; g < 4; g++) {
            x.enter(1);
        }
        for (int g = 0; g < 3; g++) {
            x.leave(g);
        }
    }

    /** PROPS 0 .. 3 of four STATES count up to 3333, each STEP by one. */
    static void counter(LockedHouse x) {
        for (int p = 0; p < 4; p++) {
            for (int from = 0; from < 3; from++) {
                int s = x.step(0, 1, 1, 0);
                x.need(s, p, from);
                x.give(s, p, from + 1);
                for (int low = 0; low < p; low++) {
                    x.need(s, low, 3);
                    x.give(s, low, 0);
                }
            }
        }
    }

    /** The STEP by which the counter goes on from n. */
    static int counterStep(int n) {
        int place = 0;
        int rest = n;
        while (rest % 4 == 3) {
            rest /= 4;
            place++;
        }
        return place * 3 + rest % 4;
    }
}
