import java.util.Random;

/** Promises 12 to 24. */
final class WalkTest {
    private static final Due DUE = new Due();
    private static final int[] NO_CODES = {-1, Integer.MIN_VALUE, Integer.MAX_VALUE, 20000, 20001};

    public static void main(String[] args) {
        kinds();
        lastAsksForEveryOnce();
        parts();
        noSuchCodes();
        endStopsMoves();
        leastAndHint();
        leastFoundLate();
        leastWhereTwoWait();
        hintIsTheLeastStepOfALeastWay();
        hintGoesToNoLostCode();
        longestOfADag();
        longestOfRings();
        longestCountsRingsOnlyWhereReached();
        traps();
        trapOnlyWhereReached();
        trapsLeaveTheRow();
        lostStart();
        musts();
        idles();
        asksAnewWhenBuilt();
        longerWay();
        for (int seed = 0; seed < 12; seed++) {
            leastOfALargeHouse(new Random(seed));
        }
        DUE.end("WalkTest");
    }

    private static void kinds() {
        LockedHouse x = Houses.of(2, 2, 2);
        x.goal(2, 1);
        for (int kind = 0; kind < 4; kind++) {
            x.step(kind, 1, 1, 0);
            x.need(kind, 0, 1);
            x.need(kind, 1, 1);
        }
        x.step(1, 1, 1, 0);
        // CODES 0 .. 7 of PROPS, 8: ONCE done, 16: LAST done
        DUE.is("no NEED is so", x.open(0), 16);
        DUE.is("one NEED is so", x.open(1), 18);
        DUE.is("the other is so", x.open(2), 18);
        DUE.is("all are so", x.open(3), 16 + 4 + 2 + 1);
        DUE.is("ONCE was done", x.open(3 + 8), 16 + 8 + 2 + 1);
        DUE.is("both were done", x.open(3 + 24), 16 + 2 + 1);
        DUE.is("LAST was done alone", x.open(3 + 16), 16 + 4 + 2 + 1);
        DUE.is("behind ONCE", x.behind(3, 2), 11);
        DUE.is("ONCE not twice", x.behind(11, 2), -1);
        DUE.is("behind LAST", x.behind(11, 3), 27);
        DUE.is("LAST not twice", x.behind(27, 3), -1);
        DUE.is("the same CODE", x.behind(0, 4), 0);
    }

    private static void lastAsksForEveryOnce() {
        LockedHouse x = Houses.of(2);
        x.goal(0, 1);
        x.step(3, 1, 1, 0);
        DUE.is("no ONCE at all", x.open(0), 1);
        x.step(2, 1, 1, 0);
        x.step(2, 9, 1, 0);
        // the weights: LAST 2, ONCE 4, ONCE 8
        DUE.is("none done", x.open(0), 2);
        DUE.is("one done", x.open(4), 0);
        DUE.is("both done", x.open(12), 1);
        x.hands(9);
        DUE.is("by nine HANDS", x.open(4), 4);
    }

    private static void parts() {
        LockedHouse x = new LockedHouse();
        x.prop(3, 0);
        x.prop(4, 2);
        x.step(0, 1, 1, 0);
        x.step(2, 1, 1, 0);
        x.step(1, 1, 1, 0);
        x.step(3, 1, 1, 0);
        int code = 2 + 3 * 3 + 12 * 0 + 24 * 1;
        DUE.is("PROP 0", x.part(code, 0, 0), 2);
        DUE.is("PROP 1", x.part(code, 0, 1), 3);
        int[] done = {0, 0, 0, 1};
        for (int s = 0; s < 4; s++) {
            DUE.is("STEP " + s, x.part(code, 1, s), done[s]);
        }
        DUE.is("ONCE", x.part(12, 1, 1), 1);
        int[] wrong = {-1, 4, Integer.MAX_VALUE, Integer.MIN_VALUE};
        for (int w : wrong) {
            DUE.throwsNoSuch("PROP " + w, () -> x.part(0, 0, w));
            DUE.throwsNoSuch("STEP " + w, () -> x.part(0, 1, w));
            DUE.throwsNoSuch("what " + w, () -> x.part(0, w, 0));
        }
        DUE.throwsNoSuch("what 2", () -> x.part(0, 2, 0));
        DUE.throwsNoSuch("PROP 2", () -> x.part(0, 0, 2));
        DUE.throwsNoSuch("CODE 48", () -> x.part(48, 0, 0));
        DUE.is("CODE 47", x.part(47, 0, 0), 2);
        for (int c : NO_CODES) {
            DUE.throwsNoSuch("CODE " + c, () -> x.part(c, 0, 0));
        }
    }

    private static void noSuchCodes() {
        LockedHouse x = Houses.of(2, 2);
        x.goal(0, 1);
        x.step(0, 1, 1, 0);
        x.give(0, 0, 1);
        x.way(0);
        for (int c : new int[] {-1, 4, 5, 255, 256, 19999, 20000, Integer.MIN_VALUE, Integer.MAX_VALUE}) {
            DUE.is("comes " + c, x.comes(c), -1);
            DUE.is("open " + c, x.open(c), -1);
            DUE.is("behind " + c, x.behind(c, 0), -1);
            DUE.is("least " + c, x.least(c), -1);
            DUE.is("hint " + c, x.hint(c), -1);
            DUE.is("way " + c, x.way(c), -1);
            DUE.is("back " + c, x.back(c), -1);
        }
        DUE.rowIs("the ROW stays", x, 0);
        for (int s : new int[] {-1, 1, 24, 32, Integer.MIN_VALUE, Integer.MAX_VALUE}) {
            DUE.is("behind by " + s, x.behind(0, s), -1);
        }
        DUE.is("behind by 0", x.behind(0, 0), 1);
    }

    private static void endStopsMoves() {
        LockedHouse x = Houses.of(4);
        x.goal(0, 2);
        Houses.go(x, 1, 0, 1);
        Houses.go(x, 1, 1, 2);
        Houses.go(x, 1, 2, 3);
        DUE.is("reached", x.reached(), 3);
        DUE.is("behind THE END", x.behind(2, 2), -1);
        DUE.is("open at THE END", x.open(2), 0);
        DUE.is("comes 2", x.comes(2), 1);
        DUE.is("comes 3", x.comes(3), 0);
        DUE.is("longest", x.longest(), 2);
        DUE.is("idle", x.idle(), 1);
        DUE.rowIs("idle", x, 2);
    }

    private static void leastAndHint() {
        LockedHouse x = Houses.of(4);
        x.goal(0, 3);
        Houses.go(x, 100, 0, 3);
        Houses.go(x, 33, 0, 1);
        Houses.go(x, 33, 1, 2);
        Houses.go(x, 33, 2, 3);
        DUE.is("three are less than one", x.least(0), 99);
        DUE.is("hint", x.hint(0), 1);
        DUE.is("way", x.way(0), 3);
        DUE.rowIs("way", x, 1, 2, 3);
        DUE.is("least 2", x.least(2), 33);
        DUE.is("least in it", x.least(3), 0);
        DUE.is("hint in it", x.hint(3), -1);
        DUE.is("way in it", x.way(3), 0);
        DUE.rowIs("way in it", x);
    }

    /** Nodes are CODES: a way found late makes one less that waited behind others. */
    private static void leastFoundLate() {
        LockedHouse x = Houses.of(4, 4);
        x.goal(0, 0);
        x.goal(1, 0);
        edge(x, 1, 0, 90);
        edge(x, 2, 0, 50);
        edge(x, 3, 0, 1);
        edge(x, 4, 0, 60);
        edge(x, 1, 3, 2);
        edge(x, 5, 1, 3);
        edge(x, 5, 2, 1);
        edge(x, 6, 5, 1);
        int[] want = {0, 3, 50, 1, 60, 6, 7, -2};
        for (int c = 0; c < want.length; c++) {
            DUE.is("least " + c, x.least(c), want[c]);
        }
        DUE.is("way", x.way(6), 4);
        DUE.rowIs("way", x, 7, 5, 4, 2);
    }

    /** Two wait, the one put in later with the greater sum: what leans on it comes out right only if it waits. */
    private static void leastWhereTwoWait() {
        LockedHouse x = Houses.of(4, 4);
        x.goal(0, 0);
        x.goal(1, 0);
        edge(x, 1, 0, 1);
        edge(x, 2, 0, 2);
        edge(x, 3, 0, 10);
        edge(x, 3, 2, 2);
        edge(x, 4, 3, 1);
        edge(x, 5, 4, 1);
        int[] want = {0, 1, 2, 4, 5, 6, -2};
        for (int c = 0; c < want.length; c++) {
            DUE.is("least " + c, x.least(c), want[c]);
        }
    }

    private static void edge(LockedHouse x, int from, int to, int ticks) {
        int s = x.step(0, 1, ticks, 0);
        x.need(s, 0, from % 4);
        x.need(s, 1, from / 4);
        x.give(s, 0, to % 4);
        x.give(s, 1, to / 4);
    }

    private static void hintIsTheLeastStepOfALeastWay() {
        LockedHouse x = Houses.of(4);
        x.goal(0, 3);
        Houses.go(x, 1, 0, 0);
        Houses.go(x, 4, 0, 2);
        Houses.go(x, 3, 0, 1);
        Houses.go(x, 5, 0, 3);
        Houses.go(x, 2, 1, 3);
        Houses.go(x, 1, 2, 3);
        DUE.is("least", x.least(0), 5);
        DUE.is("hint", x.hint(0), 1);
        DUE.is("way", x.way(0), 2);
        DUE.rowIs("way", x, 1, 5);
    }

    /** SPENT is a number too: the sum of a STEP's TICKS and it is no way. */
    private static void hintGoesToNoLostCode() {
        LockedHouse x = Houses.of(4);
        x.goal(0, 3);
        Houses.go(x, 5, 0, 1);
        Houses.go(x, 3, 0, 3);
        DUE.is("least", x.least(0), 3);
        DUE.is("hint", x.hint(0), 1);
        DUE.is("least of lost", x.least(1), -2);
        DUE.is("hint of lost", x.hint(1), -1);
        x.way(0);
        DUE.is("way of lost", x.way(1), -2);
        DUE.rowIs("the ROW stays", x, 1);
    }

    private static void longestOfADag() {
        LockedHouse x = Houses.of(4);
        x.goal(0, 3);
        DUE.is("no MOVE", x.longest(), 0);
        Houses.go(x, 100, 0, 3);
        DUE.is("one MOVE", x.longest(), 100);
        Houses.go(x, 60, 0, 1);
        Houses.go(x, 50, 1, 2);
        DUE.is("on to anywhere", x.longest(), 110);
        Houses.go(x, 1, 2, 3);
        Houses.go(x, 7, 1, 3);
        DUE.is("by all", x.longest(), 111);
    }

    private static void longestOfRings() {
        LockedHouse x = Houses.of(3, 2);
        x.goal(1, 1);
        Houses.go(x, 1, 0, 0);
        DUE.is("to itself", x.longest(), -2);
        LockedHouse y = Houses.of(3, 2);
        y.goal(1, 1);
        Houses.go(y, 1, 0, 1);
        Houses.go(y, 1, 1, 2);
        DUE.is("no ring yet", y.longest(), 2);
        Houses.go(y, 1, 2, 1);
        DUE.is("a ring away from the FIRST CODE", y.longest(), -2);
        LockedHouse z = Houses.of(3);
        z.step(2, 1, 9, 0);
        z.goal(0, 1);
        DUE.is("ONCE is no ring", z.longest(), 9);
        z.step(0, 1, 9, 0);
        DUE.is("a STEP that gives nothing is one", z.longest(), -2);
    }

    private static void longestCountsRingsOnlyWhereReached() {
        LockedHouse x = Houses.of(4);
        x.goal(0, 1);
        Houses.go(x, 8, 0, 1);
        Houses.go(x, 1, 2, 2);
        Houses.go(x, 1, 1, 0);
        DUE.is("rings not REACHED, or through THE END", x.longest(), 8);
    }

    private static void traps() {
        LockedHouse x = Houses.of(4, 2);
        x.goal(1, 1);
        Houses.go(x, 1, 0, 2);
        Houses.go(x, 1, 2, 1);
        Houses.go(x, 1, 2, 3);
        Houses.go(x, 1, 1, 3);
        int home = x.step(0, 1, 1, 0);
        x.give(home, 1, 1);
        x.need(home, 0, 1);
        // 0 -> 2 -> 1 -> THE END; 2 -> 3 and 1 -> 3 are lost
        DUE.is("trap", x.trap(), 1);
        DUE.rowIs("trap", x, 1, 3, 3);
        DUE.is("lost", x.lost(), 1);
        DUE.is("reached", x.reached(), 5);
    }

    private static void trapOnlyWhereReached() {
        LockedHouse x = Houses.of(4);
        x.goal(0, 1);
        Houses.go(x, 1, 2, 3);
        Houses.go(x, 1, 2, 1);
        Houses.go(x, 1, 0, 1);
        DUE.is("a trap not REACHED", x.trap(), 0);
        DUE.is("lost not REACHED", x.lost(), 0);
        DUE.is("least of what is not REACHED", x.least(2), 1);
        DUE.is("hint of what is not REACHED", x.hint(2), 1);
    }

    private static void trapsLeaveTheRow() {
        LockedHouse x = Houses.of(2);
        x.goal(0, 1);
        Houses.go(x, 3, 0, 1);
        x.way(0);
        DUE.is("trap 0", x.trap(), 0);
        DUE.rowIs("trap 0", x, 0);
        x.hands(1);
        x.need(0, 0, 1);
        DUE.is("trap 2", x.trap(), 2);
        DUE.rowIs("trap 2", x, 0);
    }

    private static void lostStart() {
        LockedHouse x = Houses.of(3);
        x.goal(0, 2);
        Houses.go(x, 1, 0, 1);
        Houses.go(x, 1, 1, 0);
        DUE.is("trap", x.trap(), 2);
        DUE.is("lost", x.lost(), 2);
        x.goal(0, 1);
        DUE.is("THE END that can't be", x.trap(), 2);
    }

    private static void musts() {
        LockedHouse x = Houses.of(2, 3, 2);
        x.goal(2, 1);
        int key = x.step(0, 1, 1, 0);
        x.give(key, 0, 1);
        int door = x.step(0, 1, 1, 0);
        x.need(door, 0, 1);
        x.give(door, 1, 1);
        int out = x.step(0, 1, 1, 0);
        x.need(out, 1, 1);
        x.give(out, 2, 1);
        DUE.is("out asks for the door", x.must(2, 1, 1, 1), 1);
        DUE.is("out asks for the key", x.must(2, 1, 0, 1), 1);
        DUE.is("door ahead of key", x.must(0, 1, 1, 1), 0);
        DUE.is("itself", x.must(2, 1, 2, 1), 1);
        DUE.is("first", x.must(2, 1, 0, 0), 1);
        DUE.is("the FIRST CODE is a way", x.must(1, 0, 0, 1), 0);
        DUE.is("none REACHED", x.must(1, 2, 2, 1), 1);
        DUE.is("asks for what is not REACHED", x.must(2, 1, 1, 2), 0);
        int window = x.step(0, 1, 1, 0);
        x.give(window, 2, 1);
        DUE.is("another way", x.must(2, 1, 1, 1), 0);
        int[][] wrong = {{3, 0, 0, 0}, {-1, 0, 0, 0}, {0, 2, 0, 0}, {0, -1, 0, 0}, {0, 0, 3, 0},
            {0, 0, -1, 0}, {0, 0, 0, 2}, {0, 0, 0, -1}, {0, 0, 1, 3}, {1, 3, 0, 0}};
        for (int[] w : wrong) {
            DUE.is("must(" + w[0] + ", " + w[1] + ", " + w[2] + ", " + w[3] + ")", x.must(w[0], w[1], w[2], w[3]), -1);
        }
        DUE.is("must leaves what is REACHED", x.comes(1), 1);
    }

    private static void idles() {
        LockedHouse x = Houses.of(3);
        x.goal(0, 2);
        x.step(0, 3, 1, 0);
        x.give(0, 0, 1);
        Houses.go(x, 1, 1, 2);
        Houses.go(x, 1, 0, 2);
        Houses.go(x, 1, 2, 0);
        DUE.is("idle", x.idle(), 3);
        DUE.rowIs("idle", x, 0, 1, 3);
        x.hands(3);
        DUE.is("idle by 3", x.idle(), 1);
        DUE.rowIs("idle by 3", x, 3);
    }

    private static void asksAnewWhenBuilt() {
        LockedHouse x = Houses.of(3);
        DUE.is("one", x.reached(), 1);
        x.goal(0, 2);
        DUE.is("trap", x.trap(), 2);
        int s = x.step(0, 1, 5, 0);
        DUE.is("a STEP to itself", x.longest(), -2);
        x.give(s, 0, 2);
        DUE.is("reached", x.reached(), 2);
        DUE.is("longest", x.longest(), 5);
        DUE.is("least", x.least(0), 5);
        x.need(s, 0, 1);
        DUE.is("least of none", x.least(0), -2);
        DUE.is("least of 1", x.least(1), 5);
        x.prop(2, 1);
        DUE.is("a PROP more", x.least(4), 5);
        DUE.is("idle", x.idle(), 1);
        x.clear();
        DUE.is("reached when cleared", x.reached(), 1);
        DUE.is("least when cleared", x.least(0), 0);
        DUE.is("longest when cleared", x.longest(), 0);
    }

    /** Each ONCE sets the counter back: the way is far longer than the rows of a small house. */
    private static void longerWay() {
        LockedHouse x = Houses.of(4, 4, 4, 4, 2);
        Houses.counter(x);
        x.goal(4, 1);
        for (int s = 12; s < 17; s++) {
            x.step(s < 16 ? 2 : 3, 1, 1, 0);
            for (int p = 0; p < 4; p++) {
                x.need(s, p, 3);
                if (s < 16) {
                    x.give(s, p, 0);
                }
            }
        }
        x.give(16, 4, 1);
        DUE.is("ALL", x.count(3), 16384);
        DUE.is("least asked first of all", x.least(16383), 0);
        DUE.is("reached", x.reached(), 16 * 256 + 1);
        DUE.is("least", x.least(0), 5 * 256);
        DUE.is("longest", x.longest(), 5 * 256);
        // Enough ONCE done ahead: a CODE that is not REACHED, with PROPS as at first.
        DUE.is("least of all but one done", x.least(512 * 14), 2 * 256);
        DUE.is("least where LAST was done", x.least(512 * 16), LockedHouse.SPENT);
        DUE.is("trap", x.trap(), 0);
        DUE.is("way", x.way(0), 5 * 256);
        for (int n = 0; n < 5 * 256; n++) {
            int want = n % 256 == 255 ? 12 + n / 256 : Houses.counterStep(n % 256);
            DUE.is("row " + n, x.row(n), want);
        }
        DUE.throwsNoSuch("row 1280", () -> x.row(1280));
    }

    /** As TICKS are more than 0, only the true sums are at each CODE the least of a MOVE and the rest. */
    private static void leastOfALargeHouse(Random random) {
        LockedHouse x = Houses.largest();
        int[] ticks = new int[24];
        for (int s = 0; s < ticks.length; s++) {
            ticks[s] = 1 + random.nextInt(100);
            x.step(random.nextInt(2), 1, ticks[s], 0);
            for (int n = random.nextInt(3); n > 0; n--) {
                x.need(s, random.nextInt(9), random.nextInt(3));
            }
            for (int n = 1 + random.nextInt(3); n > 0; n--) {
                x.give(s, random.nextInt(9), random.nextInt(3));
            }
        }
        x.goal(0, 1);
        x.goal(4, 2);
        x.goal(8, 1);
        for (int code = 0; code < x.count(3); code++) {
            boolean isEnd = x.part(code, 0, 0) == 1 && x.part(code, 0, 4) == 2 && x.part(code, 0, 8) == 1;
            int best = isEnd ? 0 : Integer.MAX_VALUE;
            int first = LockedHouse.NONE;
            for (int s = 0; s < ticks.length; s++) {
                int next = x.behind(code, s);
                if (next >= 0 && x.least(next) >= 0 && ticks[s] + x.least(next) < best) {
                    best = ticks[s] + x.least(next);
                    first = s;
                }
            }
            DUE.is("least " + code, x.least(code), best == Integer.MAX_VALUE ? LockedHouse.SPENT : best);
            DUE.is("hint " + code, x.hint(code), first);
        }
    }
}
