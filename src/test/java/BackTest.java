/** Promise 27. */
final class BackTest {
    private static final Due DUE = new Due();

    public static void main(String[] args) {
        noRules();
        firstIsNotZero();
        behindAnother();
        aheadOfAnother();
        leastThatLeavesOne();
        chains();
        rings();
        neverSo();
        otherNotMoved();
        rulesOfWhatIsFirst();
        spentLeavesTheRow();
        doneStepsAside();
        DUE.end("BackTest");
    }

    private static void noRules() {
        LockedHouse x = Houses.alike(12, 2);
        DUE.is("none moved", x.back(0), 0);
        DUE.rowIs("none moved", x);
        DUE.is("all moved", x.back(4095), 12);
        DUE.rowIs("all moved", x, 0, 1, 2, 3, 4, 5, 6, 7, 8, 9, 10, 11);
        DUE.is("some moved", x.back(8 + 32 + 2048), 3);
        DUE.rowIs("some moved", x, 3, 5, 11);
        DUE.is("no such CODE", x.back(4096), -1);
        DUE.is("no such CODE below", x.back(-1), -1);
        DUE.rowIs("the ROW stays", x, 3, 5, 11);
    }

    private static void firstIsNotZero() {
        LockedHouse x = new LockedHouse();
        x.prop(3, 2);
        x.prop(2, 1);
        DUE.is("FIRST CODE", x.back(x.count(8)), 0);
        DUE.is("all 0", x.back(0), 2);
        DUE.rowIs("all 0", x, 0, 1);
        x.rule(0, 1, 1);
        DUE.is("behind 1", x.back(0), 2);
        DUE.rowIs("behind 1", x, 1, 0);
    }

    private static void behindAnother() {
        LockedHouse x = Houses.alike(3, 2);
        x.rule(0, 2, 0);
        DUE.is("0 behind 2", x.back(7), 3);
        DUE.rowIs("0 behind 2", x, 1, 2, 0);
    }

    private static void aheadOfAnother() {
        LockedHouse x = Houses.alike(3, 2);
        x.rule(2, 0, 1);
        DUE.is("2 ahead of 0", x.back(7), 3);
        DUE.rowIs("2 ahead of 0", x, 1, 2, 0);
    }

    /** 0 could be put back at once, but then 1 never. */
    private static void leastThatLeavesOne() {
        LockedHouse x = Houses.alike(4, 2);
        x.rule(1, 0, 1);
        x.rule(3, 1, 1);
        DUE.is("3, then 1, then 0", x.back(15), 4);
        DUE.rowIs("3, then 1, then 0", x, 2, 3, 1, 0);
        DUE.is("without 3", x.back(7), 3);
        DUE.rowIs("without 3", x, 1, 0, 2);
    }

    private static void chains() {
        LockedHouse x = Houses.alike(12, 2);
        for (int p = 0; p < 11; p++) {
            x.rule(p, p + 1, 0);
        }
        DUE.is("down", x.back(4095), 12);
        DUE.rowIs("down", x, 11, 10, 9, 8, 7, 6, 5, 4, 3, 2, 1, 0);
        for (int p = 0; p < 11; p++) {
            x.rule(p, p + 1, 1);
        }
        DUE.is("up", x.back(4095), 12);
        DUE.rowIs("up", x, 0, 1, 2, 3, 4, 5, 6, 7, 8, 9, 10, 11);
    }

    private static void rings() {
        LockedHouse x = Houses.alike(3, 2);
        x.rule(0, 1, 0);
        x.rule(1, 0, 0);
        DUE.is("each behind the other", x.back(3), -2);
        DUE.is("one alone", x.back(1), 1);
        x.rule(0, 1, 1);
        x.rule(1, 0, 1);
        DUE.is("each ahead of the other", x.back(3), -2);
        DUE.is("with a third", x.back(7), -2);
        x.rule(1, 0, 0);
        DUE.is("0 ahead of 1, both told", x.back(3), 2);
        DUE.rowIs("0 ahead of 1, both told", x, 0, 1);
    }

    private static void neverSo() {
        LockedHouse x = Houses.alike(2, 3);
        x.rule(0, 1, 2);
        DUE.is("1 is 1, then 0, never 2", x.back(1 + 3), -2);
        DUE.is("1 is 2 now", x.back(1 + 6), 2);
        DUE.rowIs("1 is 2 now", x, 0, 1);
    }

    private static void otherNotMoved() {
        LockedHouse x = Houses.alike(2, 2);
        x.rule(0, 1, 1);
        DUE.is("1 is FIRST and stays so", x.back(1), -2);
        x.rule(0, 1, 0);
        DUE.is("1 is FIRST, as asked", x.back(1), 1);
        DUE.rowIs("1 is FIRST, as asked", x, 0);
    }

    private static void rulesOfWhatIsFirst() {
        LockedHouse x = Houses.alike(2, 2);
        x.rule(1, 0, 1);
        DUE.is("1 need not be put back", x.back(1), 1);
        DUE.rowIs("1 need not be put back", x, 0);
    }

    private static void spentLeavesTheRow() {
        LockedHouse x = Houses.alike(3, 2);
        x.rule(1, 0, 1);
        x.rule(0, 1, 1);
        DUE.is("two of them", x.back(4), 1);
        DUE.is("spent", x.back(7), -2);
        DUE.rowIs("the ROW stays", x, 2);
    }

    private static void doneStepsAside() {
        LockedHouse x = Houses.alike(1, 2);
        x.step(2, 1, 1, 0);
        DUE.is("a STEP was done", x.back(2), 0);
        DUE.is("and the PROP moved", x.back(3), 1);
        DUE.rowIs("and the PROP moved", x, 0);
    }
}
