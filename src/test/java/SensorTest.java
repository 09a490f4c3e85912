/** Promises 25 and 26. */
final class SensorTest {
    private static final Due DUE = new Due();

    public static void main(String[] args) {
        readings();
        propLeavesNone();
        refusedPropLeavesThem();
        oneToThree();
        fourAreSpent();
        firstSet();
        firstSetOfTwo();
        countsAllThatAgree();
        onlyReachedCodes();
        DUE.end("SensorTest");
    }

    private static void readings() {
        LockedHouse x = new LockedHouse();
        DUE.no("no PROP", x.reading(0, 0));
        DUE.no("no PROP, none", x.reading(0, -1));
        x.prop(2, 0);
        x.prop(3, 0);
        DUE.no("reading(2, 0)", x.reading(2, 0));
        DUE.no("reading(-1, 0)", x.reading(-1, 0));
        DUE.no("reading(2, NONE)", x.reading(2, LockedHouse.NONE));
        DUE.no("reading(0, 2)", x.reading(0, 2));
        DUE.no("reading(0, -2)", x.reading(0, -2));
        DUE.no("reading(0, MIN)", x.reading(0, Integer.MIN_VALUE));
        DUE.no("reading(MAX, 0)", x.reading(Integer.MAX_VALUE, 0));
        DUE.is("none at first", x.liars(), 0);
        DUE.rowIs("none at first", x, 1);
        DUE.yes("reading(1, 2)", x.reading(1, 2));
        DUE.is("a lie", x.liars(), 1);
        DUE.rowIs("a lie", x, 1, 1);
        DUE.no("a wrong one leaves it", x.reading(1, 3));
        DUE.is("still a lie", x.liars(), 1);
        DUE.yes("another in its place", x.reading(1, 0));
        DUE.is("no lie", x.liars(), 0);
        DUE.yes("a lie again", x.reading(1, 1));
        DUE.yes("none", x.reading(1, LockedHouse.NONE));
        DUE.is("no lie of none", x.liars(), 0);
        DUE.yes("none again", x.reading(1, LockedHouse.NONE));
    }

    private static void propLeavesNone() {
        LockedHouse x = Houses.alike(3, 2);
        x.reading(0, 1);
        x.reading(2, 1);
        DUE.is("two", x.liars(), 2);
        x.step(0, 1, 1, 0);
        DUE.is("step leaves them", x.liars(), 2);
        x.prop(2, 0);
        DUE.is("prop leaves none", x.liars(), 0);
        x.reading(3, 1);
        x.clear();
        x.prop(2, 0);
        DUE.is("clear leaves none", x.liars(), 0);
    }

    private static void refusedPropLeavesThem() {
        LockedHouse x = Houses.alike(2, 2);
        x.reading(0, 1);
        DUE.is("refused", x.prop(5, 0), -1);
        DUE.is("as they were", x.liars(), 1);
        x.enter(1);
        DUE.yes("also while a GROUP plays", x.reading(1, 1));
        DUE.is("refused while a GROUP plays", x.prop(2, 0), -1);
        DUE.is("both", x.liars(), 2);
    }

    private static void oneToThree() {
        LockedHouse x = Houses.alike(12, 2);
        for (int p = 0; p < 12; p++) {
            x.reading(p, p % 5 == 1 ? 1 : 0);
        }
        DUE.is("three", x.liars(), 3);
        DUE.rowIs("three", x, 1, 6, 11, 1);
        x.reading(6, 0);
        DUE.is("two", x.liars(), 2);
        DUE.rowIs("two", x, 1, 11, 1);
    }

    private static void fourAreSpent() {
        LockedHouse x = Houses.alike(5, 2);
        x.reading(0, 1);
        x.reading(1, 1);
        x.reading(4, 1);
        x.liars();
        x.reading(3, 1);
        DUE.is("four", x.liars(), -2);
        DUE.rowIs("the ROW stays", x, 0, 1, 4, 1);
        x.reading(2, 1);
        DUE.is("five", x.liars(), -2);
    }

    private static void firstSet() {
        LockedHouse x = Houses.alike(4, 2);
        x.goal(3, 1);
        int s = x.step(0, 1, 1, 0);
        x.give(s, 0, 1);
        x.give(s, 1, 1);
        // REACHED: 00.., 11..
        x.reading(0, 1);
        x.reading(1, 0);
        DUE.is("either", x.liars(), 1);
        DUE.rowIs("the lesser number", x, 0, 1);
    }

    private static void firstSetOfTwo() {
        LockedHouse x = Houses.alike(5, 2);
        x.goal(4, 1);
        int s = x.step(0, 1, 1, 0);
        for (int p = 0; p < 4; p++) {
            x.give(s, p, 1);
        }
        // REACHED: 0000, 1111: the readings ask for {0, 3} or {1, 2} to lie
        x.reading(0, 1);
        x.reading(3, 1);
        x.reading(1, 0);
        x.reading(2, 0);
        DUE.is("either of two", x.liars(), 2);
        DUE.rowIs("{0, 3} is ahead of {1, 2}", x, 0, 3, 1);
        x.reading(0, 0);
        x.reading(1, 1);
        DUE.is("the other way round", x.liars(), 2);
        DUE.rowIs("{0, 2} is ahead of {1, 3}", x, 0, 2, 1);
    }

    private static void countsAllThatAgree() {
        LockedHouse x = new LockedHouse();
        x.prop(2, 0);
        x.prop(4, 0);
        x.prop(3, 0);
        x.goal(0, 1);
        for (int state = 0; state < 4; state++) {
            int s = x.step(0, 1, 1, 0);
            x.give(s, 1, state);
        }
        DUE.is("four REACHED", x.reached(), 4);
        x.reading(2, 1);
        DUE.is("one liar", x.liars(), 1);
        DUE.rowIs("all four agree with none other", x, 2, 4);
        x.reading(1, 3);
        DUE.is("still one", x.liars(), 1);
        DUE.rowIs("one agrees", x, 2, 1);
    }

    private static void onlyReachedCodes() {
        LockedHouse x = Houses.alike(2, 2);
        x.goal(0, 1);
        int s = x.step(0, 3, 1, 0);
        x.give(s, 1, 1);
        x.reading(1, 1);
        DUE.is("not REACHED by two HANDS", x.liars(), 1);
        x.hands(3);
        DUE.is("REACHED by three", x.liars(), 0);
        DUE.rowIs("REACHED by three", x, 1);
    }
}
