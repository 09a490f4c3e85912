/** Boundary cases of promises 25 and 26. */
final class SensorEdges {
    private static final int NONE = LockedHouse.NONE;
    private static final int SPENT = LockedHouse.SPENT;
    private static final int LEAST = Integer.MIN_VALUE;
    private static final int MOST = Integer.MAX_VALUE;

    private SensorEdges() { }

    /** PROPS of two STATES that nobody can move, the first ones READ as moved. */
    private static LockedHouse lying(int props, int liars) {
        LockedHouse x = Houses.alike(props, 2);
        for (int p = 0; p < liars; p++) {
            x.reading(p, 1);
        }
        return x;
    }

    /** PROPS 0 .. 3 are REACHED as 0000 and as 1111, PROP 4 is 0. */
    private static LockedHouse twoCodes() {
        LockedHouse x = Houses.alike(5, 2);
        x.goal(4, 1);
        int s = Houses.idleStep(x, 0);
        for (int p = 0; p < 4; p++) {
            x.give(s, p, 1);
        }
        return x;
    }

    // ---- Promise 25: reading

    @Edge("Promise 25: no such PROP, also with NONE")
    static void readingOfNoProp(Due due) {
        LockedHouse x = Houses.of(2, 3);
        for (int p : new int[] {-1, 2, 12, LEAST, MOST}) {
            due.no("PROP " + p, x.reading(p, 0));
            due.no("PROP " + p + ", NONE", x.reading(p, NONE));
        }
        LockedHouse y = new LockedHouse();
        due.no("no PROP at all", y.reading(0, 0));
        due.no("no PROP at all, NONE", y.reading(0, NONE));
    }

    @Edge("Promise 25: no such STATE of this PROP; the READING stays")
    static void readingOfNoState(Due due) {
        LockedHouse x = Houses.of(2, 3);
        x.reading(0, 1);
        for (int state : new int[] {-2, 2, LEAST, MOST}) {
            due.no("STATE " + state + " of two", x.reading(0, state));
        }
        due.no("STATE 3 of three", x.reading(1, 3));
        due.is("as it was", x.liars(), 1);
        due.rowIs("as it was", x, 0, 1);
    }

    @Edge("Promise 25: STATE 0 and the last STATE are taken")
    static void readingOfFirstAndLastState(Due due) {
        LockedHouse x = Houses.of(4);
        due.yes("STATE 3", x.reading(0, 3));
        due.is("a lie", x.liars(), 1);
        due.yes("STATE 0", x.reading(0, 0));
        due.is("no lie", x.liars(), 0);
    }

    @Edge("Promise 25: NONE: it has none, had it one or not")
    static void readingOfNone(Due due) {
        LockedHouse x = lying(2, 2);
        due.yes("it had one", x.reading(1, NONE));
        due.is("one liar", x.liars(), 1);
        due.rowIs("one liar", x, 0, 1);
        due.yes("it had none", x.reading(1, NONE));
        due.is("still one", x.liars(), 1);
    }

    @Edge("Promise 25: ahead of any it has none")
    static void noReadingAtFirst(Due due) {
        LockedHouse x = new LockedHouse();
        x.prop(3, 2);
        due.is("liars", x.liars(), 0);
    }

    @Edge("Promise 25: clear() leaves none")
    static void clearLeavesNoReading(Due due) {
        LockedHouse x = lying(2, 2);
        x.clear();
        x.prop(2, 0);
        x.prop(2, 0);
        due.is("liars", x.liars(), 0);
    }

    @Edge("Promise 25: prop() leaves none, of no PROP")
    static void propLeavesNoReading(Due due) {
        LockedHouse x = lying(3, 3);
        x.prop(2, 0);
        due.is("liars", x.liars(), 0);
        due.rowIs("liars", x, 1);
    }

    @Edge("Promise 25: a prop() that is refused leaves them as they were")
    static void refusedPropLeavesReadings(Due due) {
        LockedHouse x = lying(12, 2);
        due.is("k", x.prop(5, 0), NONE);
        due.is("first", x.prop(2, 2), NONE);
        due.is("a 13th", x.prop(2, 0), NONE);
        due.is("liars", x.liars(), 2);
        LockedHouse y = Houses.largest();
        y.reading(8, 2);
        due.is("too many CODES", y.prop(2, 0), NONE);
        due.is("a liar", y.liars(), 1);
    }

    @Edge("Promise 25: no other BUILT call leaves none")
    static void otherCallsLeaveReadings(Due due) {
        LockedHouse x = lying(3, 2);
        x.step(2, 1, 1, 0);
        x.need(0, 2, 1);
        x.give(0, 2, 0);
        x.goal(2, 1);
        x.hands(5);
        x.rule(0, 1, 0);
        x.exit(0, 1);
        due.is("liars", x.liars(), 2);
    }

    @Edge("Promise 25: not BUILT: taken while a GROUP plays")
    static void readingWhilePlaying(Due due) {
        LockedHouse x = lying(2, 1);
        x.enter(1);
        due.yes("reading", x.reading(1, 1));
        due.is("liars", x.liars(), 2);
        due.yes("none", x.reading(0, NONE));
        due.is("liars then", x.liars(), 1);
        due.is("prop is refused and leaves them", x.prop(2, 0), NONE);
        due.is("liars still", x.liars(), 1);
    }

    // ---- Promise 26: liars

    @Edge("Promise 26: 0 without READINGS: the ROW: all REACHED CODES")
    static void liarsWithoutReadings(Due due) {
        LockedHouse x = twoCodes();
        due.is("liars", x.liars(), 0);
        due.rowIs("liars", x, 2);
        LockedHouse y = new LockedHouse();
        due.is("no PROPS", y.liars(), 0);
        due.rowIs("no PROPS", y, 1);
    }

    @Edge("Promise 26: 0 with a READING of each PROP")
    static void noLiars(Due due) {
        LockedHouse x = twoCodes();
        for (int p = 0; p < 4; p++) {
            x.reading(p, 1);
        }
        x.reading(4, 0);
        due.is("liars", x.liars(), 0);
        due.rowIs("liars", x, 1);
    }

    @Edge("Promise 26: 1, 2 and 3")
    static void oneToThreeLiars(Due due) {
        for (int many = 1; many <= 3; many++) {
            LockedHouse x = lying(12, many);
            due.is("liars", x.liars(), many);
            due.is("numbers of the ROW", x.count(6), many + 1);
            for (int i = 0; i < many; i++) {
                due.is("row(" + i + ")", x.row(i), i);
            }
            due.is("CODES", x.row(many), 1);
        }
    }

    @Edge("Promise 26: SPENT: three are not enough, be it four or twelve; the ROW stays")
    static void fourLiars(Due due) {
        LockedHouse x = lying(12, 3);
        x.liars();
        x.reading(3, 1);
        due.is("four", x.liars(), SPENT);
        due.rowIs("as it was", x, 0, 1, 2, 1);
        for (int p = 4; p < 12; p++) {
            x.reading(p, 1);
        }
        due.is("twelve", x.liars(), SPENT);
        x.reading(0, NONE);
        due.is("eleven", x.liars(), SPENT);
    }

    @Edge("Promise 26: four of one CODE, but three of another: 3")
    static void threeOfAnotherCode(Due due) {
        LockedHouse x = Houses.alike(8, 2);
        x.goal(7, 1);
        int s = Houses.idleStep(x, 0);
        x.give(s, 0, 1);
        for (int p = 0; p < 4; p++) {
            x.reading(p, 1);
        }
        due.is("liars", x.liars(), 3);
        due.rowIs("liars", x, 1, 2, 3, 1);
    }

    @Edge("Promise 26: the first set by numbers: the first number decides")
    static void firstSetByFirstNumber(Due due) {
        LockedHouse x = twoCodes();
        x.reading(0, 1);
        x.reading(1, 0);
        x.reading(2, 0);
        x.reading(3, 1);
        due.is("liars", x.liars(), 2);
        due.rowIs("0, 3 is ahead of 1, 2", x, 0, 3, 1);
        x.reading(0, 0);
        x.reading(1, 1);
        x.reading(2, 1);
        x.reading(3, 0);
        due.is("liars of the other CODE", x.liars(), 2);
        due.rowIs("0, 3 again", x, 0, 3, 1);
    }

    @Edge("Promise 26: the first set by numbers: the first numbers are alike, a later one decides")
    static void firstSetByLaterNumber(Due due) {
        LockedHouse x = twoCodes();
        x.reading(4, 1);
        x.reading(2, 1);
        x.reading(3, 0);
        // 0000 asks for 2 and 4 to lie, 1111 for 3 and 4.
        due.is("liars", x.liars(), 2);
        due.rowIs("2, 4 is ahead of 3, 4", x, 2, 4, 1);
        LockedHouse y = Houses.alike(6, 2);
        y.goal(5, 1);
        int s = Houses.idleStep(y, 0);
        y.give(s, 2, 1);
        y.give(s, 3, 1);
        y.reading(0, 1);
        y.reading(2, 0);
        y.reading(3, 1);
        due.is("liars", y.liars(), 2);
        due.rowIs("0, 2 is ahead of 0, 3", y, 0, 2, 1);
    }

    @Edge("Promise 26: fewer go ahead of lesser numbers")
    static void fewestFirst(Due due) {
        LockedHouse x = twoCodes();
        x.reading(0, 1);
        x.reading(1, 1);
        x.reading(3, 0);
        due.is("liars", x.liars(), 1);
        due.rowIs("3 is ahead of 0, 1", x, 3, 1);
    }

    @Edge("Promise 26: how many REACHED CODES are as the others tell, more than one, STEPS done counted apart")
    static void codesAsOthersTell(Due due) {
        LockedHouse x = Houses.of(4, 2, 2);
        x.goal(1, 1);
        Houses.go(x, 1, 0, 1);
        Houses.go(x, 1, 1, 2);
        Houses.idleStep(x, 2);
        x.reading(2, 1);
        due.is("liars", x.liars(), 1);
        due.rowIs("three STATES, done or not", x, 2, 6);
        x.reading(0, 3);
        due.is("two", x.liars(), 2);
        due.rowIs("the first SENSOR too", x, 0, 2, 6);
        x.reading(0, 2);
        due.is("one", x.liars(), 1);
        due.rowIs("one STATE, done or not", x, 2, 2);
    }

    @Edge("Promise 26: a CODE that is not REACHED clears no SENSOR")
    static void liarsOfNotReached(Due due) {
        LockedHouse x = Houses.of(2, 2);
        x.goal(1, 1);
        int s = x.step(0, 3, 1, 0);
        x.give(s, 0, 1);
        x.reading(0, 1);
        due.is("by 2", x.liars(), 1);
        x.hands(3);
        due.is("by 3", x.liars(), 0);
    }

    @Edge("Promise 26: the SENSOR of PROP 11")
    static void lastSensor(Due due) {
        LockedHouse x = Houses.alike(12, 2);
        x.reading(11, 1);
        due.is("liars", x.liars(), 1);
        due.rowIs("liars", x, 11, 1);
    }
}
