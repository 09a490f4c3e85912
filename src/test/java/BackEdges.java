/** Boundary cases of promise 27. */
final class BackEdges {
    private static final int NONE = LockedHouse.NONE;
    private static final int SPENT = LockedHouse.SPENT;

    private BackEdges() { }

    @Edge("Promise 27: NONE: no such CODE; the ROW stays")
    static void noSuchCode(Due due) {
        LockedHouse x = Houses.of(2, 2);
        x.back(2);
        for (int code : new int[] {-1, 4, 5, 20000, Integer.MIN_VALUE, Integer.MAX_VALUE}) {
            due.is("back(" + code + ")", x.back(code), NONE);
        }
        due.rowIs("as it was", x, 1);
    }

    @Edge("Promise 27: SPENT: there is no order; the ROW stays")
    static void noOrder(Due due) {
        LockedHouse x = Houses.of(2, 2, 2);
        x.rule(0, 1, 0);
        x.rule(1, 0, 0);
        x.back(4);
        due.is("each behind the other", x.back(7), SPENT);
        due.rowIs("as it was", x, 2);
    }

    @Edge("Promise 27: all PROPS are FIRST: 0 and an empty ROW, whatever the BACK RULES")
    static void nothingToPutBack(Due due) {
        LockedHouse x = new LockedHouse();
        x.prop(2, 1);
        x.prop(3, 2);
        x.rule(0, 1, 0);
        x.rule(1, 0, 0);
        x.way(0);
        due.is("back", x.back(x.count(8)), 0);
        due.rowIs("back", x);
    }

    @Edge("Promise 27: all twelve, without BACK RULES by their numbers")
    static void allTwelve(Due due) {
        LockedHouse x = Houses.alike(12, 2);
        due.is("back", x.back(4095), 12);
        due.rowIs("back", x, 0, 1, 2, 3, 4, 5, 6, 7, 8, 9, 10, 11);
    }

    @Edge("Promise 27: FIRST is not STATE 0")
    static void firstIsAnotherState(Due due) {
        LockedHouse x = new LockedHouse();
        x.prop(3, 1);
        x.prop(3, 2);
        due.is("0, 0", x.back(0), 2);
        due.is("1, 0", x.back(1), 1);
        due.rowIs("1, 0", x, 1);
        due.is("0, 2", x.back(6), 1);
        due.rowIs("0, 2", x, 0);
    }

    @Edge("Promise 27: STEPS that were done are not put back")
    static void doneStaysDone(Due due) {
        LockedHouse x = Houses.of(2);
        Houses.idleStep(x, 2);
        due.is("done", x.back(2), 0);
        due.is("done and moved", x.back(3), 1);
    }

    @Edge("Promise 27: also of a CODE that is not REACHED")
    static void notReached(Due due) {
        LockedHouse x = Houses.of(4);
        due.is("not REACHED", x.comes(3), 0);
        due.is("back", x.back(3), 1);
    }

    @Edge("Promise 27: the RULE asks for FIRST of a PROP that is put back: behind it")
    static void behindAnother(Due due) {
        LockedHouse x = Houses.alike(3, 2);
        x.rule(0, 2, 0);
        due.is("back", x.back(7), 3);
        due.rowIs("1, 2, 0", x, 1, 2, 0);
    }

    @Edge("Promise 27: the RULE asks for the STATE that a PROP has now: ahead of it")
    static void aheadOfAnother(Due due) {
        LockedHouse x = Houses.alike(3, 2);
        x.rule(2, 0, 1);
        due.is("back", x.back(7), 3);
        due.rowIs("1, 2, 0", x, 1, 2, 0);
    }

    @Edge("Promise 27: the RULE asks for a STATE that never is: SPENT")
    static void neverSo(Due due) {
        LockedHouse x = Houses.of(2, 3);
        x.rule(0, 1, 2);
        due.is("the other is put back from 1", x.back(1 + 2), SPENT);
        due.is("the other is FIRST", x.back(1), SPENT);
        due.is("the other is so now", x.back(1 + 4), 2);
    }

    @Edge("Promise 27: a PROP that is FIRST is not moved so that a RULE is met")
    static void noMoveAway(Due due) {
        LockedHouse x = Houses.of(2, 2);
        x.rule(0, 1, 1);
        due.is("back", x.back(1), SPENT);
    }

    @Edge("Promise 27: the RULE of a PROP that is FIRST keeps none back")
    static void ruleOfWhatIsFirst(Due due) {
        LockedHouse x = Houses.of(2, 2);
        x.rule(1, 0, 1);
        due.is("back", x.back(1), 1);
        due.rowIs("back", x, 0);
    }

    @Edge("Promise 27: the least number that leaves an order: 0 could go first, but then 1 never")
    static void leastThatLeavesOne(Due due) {
        LockedHouse x = Houses.alike(3, 2);
        x.rule(1, 0, 1);
        due.is("back", x.back(7), 3);
        due.rowIs("1, 0, 2", x, 1, 0, 2);
    }

    @Edge("Promise 27: a PROP that two others lean on waits for both")
    static void twoLeanOnOne(Due due) {
        LockedHouse x = Houses.alike(4, 2);
        x.rule(2, 0, 1);
        x.rule(3, 0, 1);
        due.is("back", x.back(15), 4);
        due.rowIs("1, 2, 3, 0", x, 1, 2, 3, 0);
    }

    @Edge("Promise 27: PROP 0 leans on another and is leaned on itself")
    static void zeroBetweenTwo(Due due) {
        LockedHouse x = Houses.alike(3, 2);
        x.rule(0, 1, 1);
        x.rule(2, 0, 1);
        due.is("back", x.back(7), 3);
        due.rowIs("2, 0, 1", x, 2, 0, 1);
    }

    @Edge("Promise 27: chains of all twelve, down and up")
    static void chains(Due due) {
        LockedHouse x = Houses.alike(12, 2);
        for (int p = 0; p < 11; p++) {
            x.rule(p, p + 1, 0);
        }
        due.is("down", x.back(4095), 12);
        due.rowIs("down", x, 11, 10, 9, 8, 7, 6, 5, 4, 3, 2, 1, 0);
        for (int p = 0; p < 11; p++) {
            x.rule(p, p + 1, 1);
        }
        due.is("up", x.back(4095), 12);
        due.rowIs("up", x, 0, 1, 2, 3, 4, 5, 6, 7, 8, 9, 10, 11);
    }

    @Edge("Promise 27: a ring of all twelve: SPENT; with one of them FIRST: an order")
    static void ringOfTwelve(Due due) {
        LockedHouse x = Houses.alike(12, 2);
        for (int p = 0; p < 12; p++) {
            x.rule(p, (p + 1) % 12, 0);
        }
        due.is("the ring", x.back(4095), SPENT);
        due.is("without PROP 5", x.back(4095 - 32), 11);
        due.rowIs("without PROP 5", x, 4, 3, 2, 1, 0, 11, 10, 9, 8, 7, 6);
    }

    @Edge("Promise 27: two that lean on each other's STATES now: SPENT")
    static void eachAheadOfTheOther(Due due) {
        LockedHouse x = Houses.of(2, 2);
        x.rule(0, 1, 1);
        x.rule(1, 0, 1);
        due.is("back", x.back(3), SPENT);
        x.rule(1, 0, 0);
        due.is("one behind the other", x.back(3), 2);
        due.rowIs("one behind the other", x, 0, 1);
    }

    @Edge("Promise 27: some can be put back, the rest never: SPENT")
    static void theRestNever(Due due) {
        LockedHouse x = Houses.of(2, 3, 2);
        x.rule(2, 1, 2);
        due.is("back", x.back(1 + 6), SPENT);
        due.is("without it", x.back(1), 1);
    }
}
