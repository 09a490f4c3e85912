/** Boundary cases of promises 12 to 24. */
final class WalkEdges {
    private static final int NONE = LockedHouse.NONE;
    private static final int SPENT = LockedHouse.SPENT;
    private static final int LEAST = Integer.MIN_VALUE;
    private static final int MOST = Integer.MAX_VALUE;

    private WalkEdges() { }

    /** PROP 0 goes from STATE 0 to THE END, 1; from 0 to 2, which is lost; 3 is not REACHED, but OPEN. */
    private static LockedHouse fork() {
        LockedHouse x = Houses.of(4);
        x.goal(0, 1);
        Houses.go(x, 5, 0, 1);
        Houses.go(x, 3, 0, 2);
        Houses.go(x, 7, 3, 1);
        return x;
    }

    /** Numbers that are no CODES of a house, those at its edges first. */
    private static int[] noCodes(LockedHouse x) {
        return new int[] {-1, x.count(3), x.count(3) + 1, 20000, LEAST, MOST};
    }

    /** Rows for the largest house stand, and what they held; the house is small again. */
    private static LockedHouse smallAgain() {
        LockedHouse x = Houses.largest();
        Houses.neverEnds(x);
        Houses.go(x, 1, 0, 1);
        x.lost();
        x.clear();
        x.prop(2, 0);
        return x;
    }

    // ---- Promise 12: reached

    @Edge("Promise 12: without STEPS the FIRST CODE alone")
    static void reachedWithoutSteps(Due due) {
        LockedHouse x = Houses.largest();
        Houses.neverEnds(x);
        due.is("reached", x.reached(), 1);
    }

    @Edge("Promise 12: the FIRST CODE is THE END: it alone")
    static void reachedFromTheEnd(Due due) {
        LockedHouse x = Houses.of(2);
        x.goal(0, 0);
        Houses.go(x, 1, 0, 1);
        due.is("reached", x.reached(), 1);
    }

    @Edge("Promise 12: a MOVE to the same CODE reaches no other")
    static void reachedByTheSame(Due due) {
        LockedHouse x = Houses.of(2);
        Houses.neverEnds(x);
        Houses.idleStep(x, 0);
        due.is("reached", x.reached(), 1);
    }

    @Edge("Promise 12: all 19683 CODES")
    static void reachedAll(Due due) {
        LockedHouse x = Houses.largest();
        Houses.neverEnds(x);
        for (int s = 0; s < 18; s++) {
            Houses.idleStep(x, 0);
            x.give(s, s / 2, 1 + s % 2);
        }
        due.is("reached", x.reached(), Houses.MOST_CODES);
        due.is("the last CODE", x.comes(Houses.MOST_CODES - 1), 1);
        due.is("lost", x.lost(), Houses.MOST_CODES);
        due.is("longest", x.longest(), SPENT);
    }

    @Edge("Promise 12: 256 CODES and 257 or more are walked alike")
    static void reachedPastSmallRows(Due due) {
        LockedHouse x = Houses.of(4, 4, 4, 4);
        Houses.counter(x);
        Houses.neverEnds(x);
        due.is("256 of 256", x.reached(), 256);
        x.prop(2, 1);
        due.is("256 of 512", x.reached(), 256);
        due.is("the last of them", x.comes(511), 1);
        due.is("the last of the others", x.comes(255), 0);
    }

    @Edge("Promise 12: the FIRST CODE is not 0")
    static void reachedFromElsewhere(Due due) {
        LockedHouse x = new LockedHouse();
        x.prop(3, 2);
        Houses.neverEnds(x);
        Houses.go(x, 1, 2, 1);
        due.is("reached", x.reached(), 2);
        due.is("not 0", x.comes(0), 0);
    }

    // ---- Promise 13: comes

    @Edge("Promise 13: no such CODE: NONE")
    static void comesOfNoCode(Due due) {
        LockedHouse x = fork();
        for (int code : noCodes(x)) {
            due.is("comes(" + code + ")", x.comes(code), NONE);
        }
        LockedHouse y = smallAgain();
        due.is("of a house that was larger", y.comes(2), NONE);
    }

    @Edge("Promise 13: the FIRST CODE is REACHED, the last CODE is not")
    static void comesOfFirstAndLast(Due due) {
        LockedHouse x = fork();
        due.is("the FIRST CODE", x.comes(0), 1);
        due.is("THE END", x.comes(1), 1);
        due.is("the last CODE", x.comes(3), 0);
    }

    // ---- Promise 14: part

    @Edge("Promise 14: no such CODE")
    static void partOfNoCode(Due due) {
        LockedHouse x = Houses.of(2);
        Houses.idleStep(x, 2);
        for (int code : noCodes(x)) {
            due.throwsNoSuch("PROP in " + code, () -> x.part(code, 0, 0));
            due.throwsNoSuch("STEP in " + code, () -> x.part(code, 1, 0));
        }
        due.is("the last CODE", x.part(3, 0, 0), 1);
        due.is("the last CODE, STEP", x.part(3, 1, 0), 1);
    }

    @Edge("Promise 14: no such PROP")
    static void partOfNoProp(Due due) {
        LockedHouse x = Houses.of(2, 3);
        Houses.idleStep(x, 0);
        Houses.idleStep(x, 0);
        Houses.idleStep(x, 0);
        for (int i : new int[] {-1, 2, 12, LEAST, MOST}) {
            due.throwsNoSuch("PROP " + i, () -> x.part(0, 0, i));
        }
        due.is("the last PROP", x.part(5, 0, 1), 2);
    }

    @Edge("Promise 14: no such STEP")
    static void partOfNoStep(Due due) {
        LockedHouse x = Houses.of(2, 2, 2);
        Houses.idleStep(x, 2);
        for (int i : new int[] {-1, 1, 24, 32, LEAST, MOST}) {
            due.throwsNoSuch("STEP " + i, () -> x.part(0, 1, i));
        }
        due.is("the last STEP", x.part(8, 1, 0), 1);
    }

    @Edge("Promise 14: another what")
    static void partOfNoWhat(Due due) {
        LockedHouse x = Houses.of(2);
        Houses.idleStep(x, 2);
        for (int what : new int[] {-1, 2, LEAST, MOST}) {
            due.throwsNoSuch("what " + what, () -> x.part(0, what, 0));
        }
    }

    @Edge("Promise 14: nothing built: CODE 0 has no PROP and no STEP")
    static void partOfNothing(Due due) {
        LockedHouse x = new LockedHouse();
        due.throwsNoSuch("PROP", () -> x.part(0, 0, 0));
        due.throwsNoSuch("STEP", () -> x.part(0, 1, 0));
    }

    @Edge("Promise 14: 0 of a STEP of KIND 0, 1 though a GROUP did it")
    static void partOfKinds(Due due) {
        LockedHouse x = Houses.of(2);
        x.goal(0, 1);
        for (int kind : new int[] {0, 1, 2, 3}) {
            Houses.idleStep(x, kind);
        }
        x.enter(1);
        int[] want = {0, 0, 1, 1};
        for (int s = 0; s < 4; s++) {
            due.is("act", x.act(0, s), 1);
            due.is("KIND " + s, x.part(x.group(0, 0), 1, s), want[s]);
        }
    }

    @Edge("Promise 14: STEPS of KIND 2 and 3 apart: only one was done")
    static void partOfOneDone(Due due) {
        LockedHouse x = Houses.of(3);
        Houses.idleStep(x, 3);
        Houses.idleStep(x, 2);
        due.is("STEP 0 in 3", x.part(3, 1, 0), 1);
        due.is("STEP 1 in 3", x.part(3, 1, 1), 0);
        due.is("STEP 0 in 8", x.part(8, 1, 0), 0);
        due.is("STEP 1 in 8", x.part(8, 1, 1), 1);
    }

    // ---- Promise 15: open

    @Edge("Promise 15: no such CODE: NONE")
    static void openOfNoCode(Due due) {
        LockedHouse x = fork();
        for (int code : noCodes(x)) {
            due.is("open(" + code + ")", x.open(code), NONE);
        }
    }

    @Edge("Promise 15: STEP 0 the lowest bit, STEP 23 the highest")
    static void openBits(Due due) {
        LockedHouse x = Houses.of(2, 2);
        x.goal(1, 1);
        for (int s = 0; s < 24; s++) {
            Houses.idleStep(x, 0);
        }
        due.is("all 24", x.open(0), 0xFFFFFF);
        for (int s = 1; s < 23; s++) {
            x.need(s, 0, 1);
        }
        due.is("0 and 23", x.open(0), 1 + (1 << 23));
        x.need(0, 0, 1);
        due.is("23", x.open(0), 1 << 23);
    }

    @Edge("Promise 15: none: 0, at THE END and where nothing can be done")
    static void openNone(Due due) {
        LockedHouse x = fork();
        due.is("THE END", x.open(1), 0);
        due.is("lost", x.open(2), 0);
        due.is("without STEPS", Houses.of(2).open(1), 0);
    }

    @Edge("Promise 15: also of a CODE that is not REACHED")
    static void openOfNotReached(Due due) {
        due.is("open(3)", fork().open(3), 4);
    }

    // ---- Promise 16: behind

    @Edge("Promise 16: no such CODE: NONE")
    static void behindNoCode(Due due) {
        LockedHouse x = Houses.of(2);
        x.goal(0, 1);
        Houses.idleStep(x, 0);
        for (int code : noCodes(x)) {
            due.is("behind(" + code + ", 0)", x.behind(code, 0), NONE);
        }
    }

    @Edge("Promise 16: no such STEP: NONE")
    static void behindNoStep(Due due) {
        LockedHouse x = fork();
        for (int s : new int[] {-1, 3, 24, 32, LEAST, MOST}) {
            due.is("behind(0, " + s + ")", x.behind(0, s), NONE);
        }
        due.is("the last STEP", x.behind(3, 2), 1);
    }

    @Edge("Promise 16: no MOVE: a NEED is not so, too few HANDS, done once, THE END")
    static void behindNoMove(Due due) {
        LockedHouse x = fork();
        due.is("a NEED", x.behind(0, 2), NONE);
        int strong = x.step(0, 3, 1, 0);
        due.is("HANDS", x.behind(0, strong), NONE);
        int once = Houses.idleStep(x, 2);
        due.is("not done", x.behind(0, once), 4);
        due.is("done", x.behind(4, once), NONE);
        due.is("THE END", x.behind(1, once), NONE);
    }

    @Edge("Promise 16: the CODE behind is the same one")
    static void behindTheSame(Due due) {
        LockedHouse x = Houses.of(2, 2);
        x.goal(1, 1);
        Houses.idleStep(x, 0);
        due.is("0", x.behind(0, 0), 0);
        due.is("1", x.behind(1, 0), 1);
    }

    // ---- Promise 17: least

    @Edge("Promise 17: no such CODE: NONE")
    static void leastOfNoCode(Due due) {
        LockedHouse x = fork();
        for (int code : noCodes(x)) {
            due.is("least(" + code + ")", x.least(code), NONE);
        }
        due.is("of a house that was larger", smallAgain().least(2), NONE);
    }

    @Edge("Promise 17: 0 in THE END, be it with STEPS that could go on")
    static void leastInTheEnd(Due due) {
        LockedHouse x = fork();
        Houses.go(x, 1, 1, 0);
        due.is("least", x.least(1), 0);
    }

    @Edge("Promise 17: SPENT: it is not OPEN")
    static void leastOfLost(Due due) {
        LockedHouse x = fork();
        due.is("no MOVE goes from it", x.least(2), SPENT);
        Houses.go(x, 1, 2, 2);
        due.is("it goes round", x.least(2), SPENT);
    }

    @Edge("Promise 17: also of a CODE that is not REACHED")
    static void leastOfNotReached(Due due) {
        due.is("least(3)", fork().least(3), 7);
    }

    @Edge("Promise 17: many TICKS in few STEPS against few TICKS in many, and one less or more")
    static void leastByTicks(Due due) {
        LockedHouse x = Houses.of(4);
        x.goal(0, 3);
        Houses.go(x, 9, 0, 3);
        Houses.go(x, 3, 0, 1);
        Houses.go(x, 3, 1, 2);
        int last = Houses.go(x, 2, 2, 3);
        due.is("8 against 9", x.least(0), 8);
        x.need(last, 0, 1);
        Houses.go(x, 4, 2, 3);
        due.is("10 against 9", x.least(0), 9);
    }

    @Edge("Promise 17: by HANDS as told: a way that asks for one more is none")
    static void leastByHands(Due due) {
        LockedHouse x = fork();
        int quick = x.step(0, 3, 1, 0);
        x.give(quick, 0, 1);
        due.is("by 2", x.least(0), 5);
        x.hands(3);
        due.is("by 3", x.least(0), 1);
    }

    // ---- Promise 18: hint

    @Edge("Promise 18: NONE: no such CODE")
    static void hintOfNoCode(Due due) {
        LockedHouse x = fork();
        for (int code : noCodes(x)) {
            due.is("hint(" + code + ")", x.hint(code), NONE);
        }
    }

    @Edge("Promise 18: NONE: it is not OPEN, though a MOVE goes from it")
    static void hintOfLost(Due due) {
        LockedHouse x = fork();
        due.is("no MOVE", x.hint(2), NONE);
        Houses.go(x, 1, 2, 2);
        due.is("a MOVE", x.hint(2), NONE);
    }

    @Edge("Promise 18: NONE: it is of THE END, though a STEP could be done")
    static void hintInTheEnd(Due due) {
        LockedHouse x = fork();
        Houses.go(x, 1, 1, 1);
        due.is("hint", x.hint(1), NONE);
    }

    @Edge("Promise 18: of two least ways the least STEP, be its first MOVE the longer one")
    static void hintOfEqualWays(Due due) {
        LockedHouse x = Houses.of(4);
        x.goal(0, 3);
        int round = Houses.go(x, 1, 0, 0);
        int longer = Houses.go(x, 6, 0, 3);
        Houses.go(x, 2, 0, 1);
        Houses.go(x, 4, 1, 3);
        Houses.go(x, 6, 0, 3);
        due.is("not round", round, 0);
        due.is("hint", x.hint(0), longer);
    }

    @Edge("Promise 18: STEP 0 and STEP 23")
    static void hintOfFirstAndLastStep(Due due) {
        LockedHouse x = Houses.of(4);
        x.goal(0, 3);
        Houses.go(x, 1, 0, 3);
        for (int s = 1; s < 23; s++) {
            Houses.go(x, 1, 2, 2);
        }
        Houses.go(x, 1, 1, 3);
        due.is("STEP 0", x.hint(0), 0);
        due.is("STEP 23", x.hint(1), 23);
    }

    @Edge("Promise 18: a STEP to a lost CODE begins no way, whatever its TICKS")
    static void hintPastLost(Due due) {
        for (int ticks = 1; ticks <= 9; ticks++) {
            LockedHouse x = Houses.of(3);
            x.goal(0, 2);
            Houses.go(x, ticks, 0, 1);
            int right = Houses.go(x, 5, 0, 2);
            due.is("TICKS " + ticks, x.hint(0), right);
        }
    }

    // ---- Promise 19: way

    @Edge("Promise 19: in THE END: 0 and an empty ROW")
    static void wayInTheEnd(Due due) {
        LockedHouse x = fork();
        x.way(0);
        due.is("way", x.way(1), 0);
        due.rowIs("way", x);
    }

    @Edge("Promise 19: NONE: no such CODE; the ROW stays")
    static void wayOfNoCode(Due due) {
        LockedHouse x = fork();
        x.way(3);
        for (int code : noCodes(x)) {
            due.is("way(" + code + ")", x.way(code), NONE);
        }
        due.rowIs("as it was", x, 2);
    }

    @Edge("Promise 19: SPENT: it is not OPEN; the ROW stays")
    static void wayOfLost(Due due) {
        LockedHouse x = fork();
        x.way(3);
        due.is("way", x.way(2), SPENT);
        due.rowIs("as it was", x, 2);
    }

    @Edge("Promise 19: a way through all 256 CODES")
    static void wayThroughAll(Due due) {
        LockedHouse x = Houses.of(4, 4, 4, 4);
        Houses.counter(x);
        for (int p = 0; p < 4; p++) {
            x.goal(p, 3);
        }
        due.is("reached", x.reached(), 256);
        due.is("least", x.least(0), 255);
        due.is("longest", x.longest(), 255);
        due.is("way", x.way(0), 255);
        for (int n = 0; n < 255; n++) {
            due.is("row(" + n + ")", x.row(n), Houses.counterStep(n));
        }
        due.throwsNoSuch("row(255)", () -> x.row(255));
    }

    @Edge("Promise 19: by hint() each time, where two ways are least at each place")
    static void wayByHints(Due due) {
        LockedHouse x = Houses.of(3);
        x.goal(0, 2);
        Houses.go(x, 4, 1, 2);
        Houses.go(x, 4, 1, 2);
        Houses.go(x, 3, 0, 1);
        Houses.go(x, 7, 0, 2);
        due.is("way", x.way(0), 2);
        due.rowIs("way", x, 2, 0);
    }

    // ---- Promise 20: longest

    @Edge("Promise 20: no MOVE goes from the FIRST CODE: 0")
    static void longestOfNone(Due due) {
        LockedHouse x = Houses.of(2);
        x.goal(0, 1);
        due.is("without STEPS", x.longest(), 0);
        x.goal(0, 0);
        due.is("without THE END", x.longest(), 0);
        LockedHouse y = Houses.of(2);
        Houses.idleStep(y, 0);
        due.is("in THE END", y.longest(), 0);
    }

    @Edge("Promise 20: on to anywhere: a lost CODE farther than THE END, and nearer")
    static void longestToAnywhere(Due due) {
        LockedHouse x = Houses.of(3);
        x.goal(0, 1);
        Houses.go(x, 5, 0, 1);
        Houses.go(x, 4, 0, 2);
        due.is("THE END is farther", x.longest(), 5);
        Houses.go(x, 6, 0, 2);
        due.is("the lost one is farther", x.longest(), 6);
    }

    @Edge("Promise 20: SPENT: a MOVE from the FIRST CODE to itself")
    static void longestOfOneRound(Due due) {
        LockedHouse x = Houses.of(2);
        x.goal(0, 1);
        Houses.idleStep(x, 0);
        due.is("longest", x.longest(), SPENT);
    }

    @Edge("Promise 20: SPENT: a ring away from the FIRST CODE and from the way to THE END")
    static void longestOfARingAway(Due due) {
        LockedHouse x = Houses.of(4);
        x.goal(0, 1);
        Houses.go(x, 1, 0, 1);
        Houses.go(x, 1, 0, 2);
        Houses.go(x, 1, 2, 3);
        due.is("no ring", x.longest(), 2);
        Houses.go(x, 1, 3, 2);
        due.is("a ring", x.longest(), SPENT);
    }

    @Edge("Promise 20: SPENT: back to the FIRST CODE")
    static void longestBackToFirst(Due due) {
        LockedHouse x = Houses.of(3);
        x.goal(0, 2);
        Houses.go(x, 1, 0, 1);
        Houses.go(x, 1, 1, 0);
        due.is("longest", x.longest(), SPENT);
    }

    @Edge("Promise 20: two ways to one CODE, or two STEPS, are not twice")
    static void longestOfTwoWays(Due due) {
        LockedHouse x = Houses.of(4);
        x.goal(0, 3);
        Houses.go(x, 1, 0, 1);
        Houses.go(x, 2, 0, 1);
        Houses.go(x, 9, 0, 2);
        Houses.go(x, 8, 1, 2);
        Houses.go(x, 1, 2, 3);
        due.is("longest", x.longest(), 2 + 8 + 1);
    }

    @Edge("Promise 20: a ring that is not REACHED, or would go on from THE END, is none")
    static void longestOfNoRing(Due due) {
        LockedHouse x = Houses.of(4);
        x.goal(0, 1);
        Houses.go(x, 100, 0, 1);
        Houses.go(x, 1, 1, 0);
        Houses.go(x, 1, 2, 2);
        Houses.go(x, 1, 2, 3);
        due.is("longest", x.longest(), 100);
    }

    @Edge("Promise 20: ONCE is no ring: each of 13 is done once")
    static void longestOfOnce(Due due) {
        LockedHouse x = new LockedHouse();
        for (int s = 0; s < 13; s++) {
            x.step(2, 1, 100, 0);
        }
        x.prop(2, 0);
        Houses.neverEnds(x);
        due.is("longest", x.longest(), 1300);
        due.is("reached", x.reached(), 8192);
    }

    @Edge("Promise 20: asked anew: neither the longer way nor the ring of two HANDS is one HAND's")
    static void longestAskedAnew(Due due) {
        LockedHouse x = Houses.of(3);
        x.goal(0, 2);
        Houses.go(x, 5, 0, 1);
        Houses.go(x, 1, 1, 2);
        int longer = x.step(0, 2, 50, 0);
        x.need(longer, 0, 0);
        x.give(longer, 0, 1);
        due.is("by two", x.longest(), 51);
        x.hands(1);
        due.is("by one", x.longest(), 6);
        int round = x.step(0, 2, 1, 0);
        x.need(round, 0, 1);
        x.hands(2);
        due.is("by two, round", x.longest(), SPENT);
        x.hands(1);
        due.is("by one again", x.longest(), 6);
    }

    // ---- Promise 21: trap

    @Edge("Promise 21: 0: all REACHED CODES are OPEN, a lost one is not REACHED; the ROW stays")
    static void noTrap(Due due) {
        LockedHouse x = Houses.of(4);
        x.goal(0, 1);
        Houses.go(x, 1, 0, 1);
        Houses.go(x, 1, 3, 2);
        Houses.go(x, 1, 3, 1);
        x.way(0);
        due.is("trap", x.trap(), 0);
        due.rowIs("as it was", x, 0);
    }

    @Edge("Promise 21: 0: the FIRST CODE is THE END")
    static void noTrapInTheEnd(Due due) {
        LockedHouse x = Houses.of(2);
        x.goal(0, 0);
        Houses.go(x, 1, 0, 1);
        due.is("trap", x.trap(), 0);
    }

    @Edge("Promise 21: 1: the ROW: CODE, STEP, the CODE behind")
    static void oneTrap(Due due) {
        LockedHouse x = fork();
        due.is("trap", x.trap(), 1);
        due.rowIs("trap", x, 0, 1, 2);
    }

    @Edge("Promise 21: 1: the least CODE, not the one that is REACHED first")
    static void trapOfTheLeastCode(Due due) {
        LockedHouse x = new LockedHouse();
        x.prop(4, 3);
        x.prop(2, 0);
        x.goal(1, 1);
        Houses.go(x, 1, 3, 0);
        int far = Houses.go(x, 1, 3, 2);
        Houses.go(x, 1, 3, 1);
        int near = Houses.go(x, 1, 1, 2);
        int out = Houses.go(x, 1, 1, 1);
        x.give(out, 1, 1);
        // 3 is FIRST: 0 and 2 are lost, 1 is OPEN; 3 and 1 have MOVES to lost ones.
        due.is("trap", x.trap(), 1);
        due.rowIs("trap", x, 1, near, 2);
        due.is("FIRST has one too", x.behind(3, far), 2);
    }

    @Edge("Promise 21: 1: the least STEP to a lost CODE, past lesser ones to OPEN ones")
    static void trapOfTheLeastStep(Due due) {
        LockedHouse x = Houses.of(4);
        x.goal(0, 1);
        Houses.go(x, 1, 0, 1);
        Houses.go(x, 1, 0, 0);
        int least = Houses.go(x, 9, 0, 3);
        Houses.go(x, 1, 0, 2);
        due.is("trap", x.trap(), 1);
        due.rowIs("trap", x, 0, least, 3);
    }

    @Edge("Promise 21: 1: a lesser CODE that is lost itself, or not REACHED, is not told")
    static void trapPastOthers(Due due) {
        LockedHouse x = new LockedHouse();
        x.prop(4, 3);
        x.prop(2, 0);
        x.goal(1, 1);
        int down = Houses.go(x, 1, 3, 0);
        Houses.go(x, 1, 0, 1);
        Houses.go(x, 1, 2, 0);
        int out = Houses.go(x, 1, 3, 3);
        x.give(out, 1, 1);
        int home = Houses.go(x, 1, 2, 2);
        x.give(home, 1, 1);
        // 3 is FIRST and OPEN; 0 and 1 are lost; 2 is OPEN, has a MOVE to 0, and is not REACHED.
        due.is("trap", x.trap(), 1);
        due.rowIs("trap", x, 3, down, 0);
    }

    @Edge("Promise 21: 2: the FIRST CODE is not OPEN; the ROW stays")
    static void trapAtFirst(Due due) {
        LockedHouse x = Houses.of(3);
        x.goal(0, 2);
        Houses.go(x, 1, 0, 1);
        x.back(1);
        due.is("trap", x.trap(), 2);
        due.rowIs("as it was", x, 0);
    }

    // ---- Promise 22: lost

    @Edge("Promise 22: none: 0")
    static void lostNone(Due due) {
        due.is("lost", Houses.of(2).lost(), 0);
    }

    @Edge("Promise 22: all that are REACHED")
    static void lostAll(Due due) {
        LockedHouse x = Houses.of(3);
        x.goal(0, 2);
        Houses.go(x, 1, 0, 1);
        due.is("lost", x.lost(), 2);
    }

    @Edge("Promise 22: not OPEN and not REACHED is not counted")
    static void lostNotReached(Due due) {
        LockedHouse x = Houses.of(4);
        x.goal(0, 1);
        Houses.go(x, 1, 0, 1);
        Houses.go(x, 1, 0, 2);
        due.is("least of what is not REACHED", x.least(3), SPENT);
        due.is("lost", x.lost(), 1);
    }

    // ---- Promise 23: must

    @Edge("Promise 23: NONE: no such PROP a or b")
    static void mustOfNoProp(Due due) {
        LockedHouse x = Houses.of(2, 3);
        for (int p : new int[] {-1, 2, 12, LEAST, MOST}) {
            due.is("a " + p, x.must(p, 0, 0, 0), NONE);
            due.is("b " + p, x.must(0, 0, p, 0), NONE);
        }
        due.is("no PROP at all", new LockedHouse().must(0, 0, 0, 0), NONE);
    }

    @Edge("Promise 23: NONE: no such STATE s of a or t of b")
    static void mustOfNoState(Due due) {
        LockedHouse x = Houses.of(2, 3);
        for (int state : new int[] {-1, 3, LEAST, MOST}) {
            due.is("s " + state, x.must(1, state, 0, 0), NONE);
            due.is("t " + state, x.must(0, 0, 1, state), NONE);
        }
        due.is("s 2 of two", x.must(0, 2, 1, 2), NONE);
        due.is("t 2 of two", x.must(1, 2, 0, 2), NONE);
        due.is("the last STATES", x.must(1, 2, 0, 1), 1);
    }

    @Edge("Promise 23: 1 if no such CODE is REACHED, be what must come never so")
    static void mustOfNotReached(Due due) {
        LockedHouse x = fork();
        due.is("must", x.must(0, 3, 0, 0), 1);
        due.is("never so", x.must(0, 3, 0, 3), 1);
    }

    /** PROP 0 goes 0, 1, 2, 3 and PROP 1 with it at the last STEP. */
    private static LockedHouse line() {
        LockedHouse x = Houses.of(4, 2);
        x.goal(1, 1);
        Houses.go(x, 1, 0, 1);
        Houses.go(x, 1, 1, 2);
        int last = Houses.go(x, 1, 2, 3);
        x.give(last, 1, 1);
        return x;
    }

    @Edge("Promise 23: first: the FIRST CODE is the one that must come")
    static void mustAtFirst(Due due) {
        due.is("must", line().must(1, 1, 0, 0), 1);
    }

    @Edge("Promise 23: last: only the CODE itself is the one that must come")
    static void mustAtLast(Due due) {
        LockedHouse x = line();
        due.is("another PROP", x.must(1, 1, 0, 3), 1);
        due.is("the same pair", x.must(0, 3, 0, 3), 1);
    }

    @Edge("Promise 23: between")
    static void mustBetween(Due due) {
        due.is("must", line().must(0, 3, 0, 2), 1);
    }

    @Edge("Promise 23: 0: what must come comes only behind it, or never")
    static void mustBehind(Due due) {
        LockedHouse x = line();
        due.is("behind", x.must(0, 1, 0, 2), 0);
        due.is("never", x.must(0, 2, 1, 1), 0);
    }

    @Edge("Promise 23: the FIRST CODE alone is a way")
    static void mustOfFirst(Due due) {
        LockedHouse x = line();
        due.is("without", x.must(0, 0, 0, 1), 0);
        due.is("with", x.must(0, 0, 1, 0), 1);
    }

    @Edge("Promise 23: one way past it is enough for 0")
    static void mustOfTwoWays(Due due) {
        LockedHouse x = line();
        due.is("one way", x.must(0, 3, 0, 1), 1);
        Houses.go(x, 1, 0, 2);
        due.is("two ways", x.must(0, 3, 0, 1), 0);
    }

    @Edge("Promise 23: ways end at THE END")
    static void mustEndsAtTheEnd(Due due) {
        LockedHouse x = Houses.of(4);
        x.goal(0, 1);
        Houses.go(x, 1, 0, 1);
        Houses.go(x, 1, 1, 3);
        Houses.go(x, 1, 0, 2);
        Houses.go(x, 1, 2, 3);
        due.is("not through 1", x.must(0, 3, 0, 2), 1);
    }

    // ---- Promise 24: idle

    @Edge("Promise 24: no STEPS, or none idle: 0 and an empty ROW")
    static void idleNone(Due due) {
        LockedHouse x = Houses.of(2);
        x.back(1);
        due.is("no STEPS", x.idle(), 0);
        due.rowIs("no STEPS", x);
        x.goal(0, 1);
        Houses.idleStep(x, 0);
        x.back(1);
        due.is("none idle", x.idle(), 0);
        due.rowIs("none idle", x);
    }

    @Edge("Promise 24: all 24, ascending")
    static void idleAll(Due due) {
        LockedHouse x = Houses.of(2);
        for (int s = 0; s < 24; s++) {
            Houses.idleStep(x, s % 2);
        }
        due.is("in THE END", x.idle(), 24);
        for (int s = 0; s < 24; s++) {
            due.is("row(" + s + ")", x.row(s), s);
        }
        due.throwsNoSuch("row(24)", () -> x.row(24));
    }

    @Edge("Promise 24: a STEP that can be done only where none is REACHED, or with more HANDS")
    static void idleWhereNotReached(Due due) {
        LockedHouse x = fork();
        x.step(0, 3, 1, 0);
        due.is("idle", x.idle(), 2);
        due.rowIs("idle", x, 2, 3);
        x.hands(3);
        due.is("by 3", x.idle(), 1);
        due.rowIs("by 3", x, 2);
    }

    @Edge("Promise 24: only STEP 23 is idle")
    static void idleLast(Due due) {
        LockedHouse x = Houses.of(3);
        x.goal(0, 1);
        for (int s = 0; s < 23; s++) {
            Houses.idleStep(x, 0);
        }
        Houses.go(x, 1, 2, 1);
        due.is("idle", x.idle(), 1);
        due.rowIs("idle", x, 23);
    }
}
