/** Boundary cases of promises 1 to 11. */
final class BuiltEdges {
    private static final int NONE = LockedHouse.NONE;
    private static final int SPENT = LockedHouse.SPENT;
    private static final int LEAST = Integer.MIN_VALUE;
    private static final int MOST = Integer.MAX_VALUE;

    private BuiltEdges() { }

    // ---- Promise 1: a new object

    @Edge("Promise 1: no PROPS, STEPS, END, GROUPS, ROW, MOVES")
    static void newObject(Due due) {
        due.countsAre("new", new LockedHouse(), 0, 0, 0, 1, 2, 0, 0, 0, 0);
    }

    @Edge("Promise 1: HANDS 2: a STEP for two can be done, one for three can't")
    static void twoHandsAtFirst(Due due) {
        LockedHouse x = Houses.of(2);
        x.goal(0, 1);
        x.step(0, 2, 1, 0);
        x.step(0, 3, 1, 0);
        due.is("open", x.open(0), 1);
    }

    @Edge("Promise 1: every question is answered where nothing is built")
    static void emptyHouse(Due due) {
        LockedHouse x = new LockedHouse();
        due.is("reached", x.reached(), 1);
        due.is("comes", x.comes(0), 1);
        due.is("open", x.open(0), 0);
        due.is("behind", x.behind(0, 0), NONE);
        due.is("least", x.least(0), 0);
        due.is("hint", x.hint(0), NONE);
        due.is("way", x.way(0), 0);
        due.is("longest", x.longest(), 0);
        due.is("trap", x.trap(), 0);
        due.is("lost", x.lost(), 0);
        due.is("must", x.must(0, 0, 0, 0), NONE);
        due.is("idle", x.idle(), 0);
        due.is("liars", x.liars(), 0);
        due.is("back", x.back(0), 0);
        due.is("log", x.log(0, 0), NONE);
        due.is("alarm", x.alarm(), 0);
    }

    @Edge("Promise 1: objects share nothing")
    static void objectsApart(Due due) {
        LockedHouse x = Houses.of(2, 2);
        LockedHouse y = new LockedHouse();
        x.enter(1);
        due.countsAre("the other", y, 0, 0, 0, 1, 2, 0, 0, 0, 0);
        due.is("it can be built", y.prop(2, 0), 0);
    }

    // ---- Promise 2: prop

    @Edge("Promise 2: k below 2 is refused")
    static void tooFewStates(Due due) {
        LockedHouse x = new LockedHouse();
        for (int k : new int[] {1, 0, -1, LEAST}) {
            due.is("prop(" + k + ", 0)", x.prop(k, 0), NONE);
        }
        due.countsAre("nothing built", x, 0, 0, 0, 1);
    }

    @Edge("Promise 2: k above 4 is refused")
    static void tooManyStates(Due due) {
        LockedHouse x = new LockedHouse();
        for (int k : new int[] {5, 6, 20000, 1 << 30, MOST}) {
            due.is("prop(" + k + ", 0)", x.prop(k, 0), NONE);
        }
        due.countsAre("nothing built", x, 0, 0, 0, 1);
    }

    @Edge("Promise 2: k 2, 3 and 4 are taken: the PROP's number, from 0")
    static void statesAsTold(Due due) {
        LockedHouse x = new LockedHouse();
        due.is("prop(2, 0)", x.prop(2, 0), 0);
        due.is("prop(3, 0)", x.prop(3, 0), 1);
        due.is("prop(4, 0)", x.prop(4, 0), 2);
        due.is("ALL", x.count(3), 24);
    }

    @Edge("Promise 2: first below 0 is refused")
    static void firstTooSmall(Due due) {
        LockedHouse x = new LockedHouse();
        for (int first : new int[] {-1, -2, LEAST}) {
            due.is("prop(2, " + first + ")", x.prop(2, first), NONE);
        }
        due.is("nothing built", x.count(0), 0);
    }

    @Edge("Promise 2: first of k or above is refused")
    static void firstTooLarge(Due due) {
        LockedHouse x = new LockedHouse();
        for (int k = 2; k <= 4; k++) {
            due.is("first " + k + " of " + k, x.prop(k, k), NONE);
            due.is("first far above", x.prop(k, MOST), NONE);
        }
        due.is("first 3 of 2", x.prop(2, 3), NONE);
        due.is("nothing built", x.count(0), 0);
    }

    @Edge("Promise 2: first 0 and first k - 1 are taken")
    static void firstAsTold(Due due) {
        LockedHouse x = new LockedHouse();
        due.is("prop(2, 1)", x.prop(2, 1), 0);
        due.is("prop(3, 2)", x.prop(3, 2), 1);
        due.is("prop(4, 3)", x.prop(4, 3), 2);
        due.is("prop(4, 0)", x.prop(4, 0), 3);
        due.is("FIRST CODE", x.count(8), 23);
    }

    @Edge("Promise 2: the 12th PROP is taken, a 13th is refused")
    static void thirteenthProp(Due due) {
        LockedHouse x = Houses.alike(11, 2);
        due.is("the 12th", x.prop(2, 0), 11);
        due.is("a 13th", x.prop(2, 0), NONE);
        due.countsAre("as it was", x, 12, 0, 0, 4096);
    }

    @Edge("Promise 2: 19683 CODES are taken")
    static void mostCodes(Due due) {
        LockedHouse x = Houses.alike(8, 3);
        due.is("the ninth", x.prop(3, 2), 8);
        due.is("ALL", x.count(3), Houses.MOST_CODES);
        due.is("FIRST CODE", x.count(8), 2 * 6561);
    }

    @Edge("Promise 2: 20736 CODES would be too many")
    static void tooManyCodes(Due due) {
        LockedHouse x = Houses.of(4, 4, 4, 4, 3, 3, 3);
        due.is("three STATES more", x.prop(3, 1), NONE);
        due.is("four STATES more", x.prop(4, 1), NONE);
        due.countsAre("as it was", x, 7, 0, 0, 6912, 2, 0, 0, 0, 0);
        due.is("two STATES more", x.prop(2, 1), 7);
        due.is("ALL", x.count(3), 13824);
    }

    @Edge("Promise 2: too many CODES: STEPS of KIND 2 and 3 count")
    static void tooManyCodesByOnce(Due due) {
        LockedHouse x = new LockedHouse();
        for (int s = 0; s < 13; s++) {
            Houses.idleStep(x, 2 + s % 2);
        }
        due.is("ALL", x.count(3), 8192);
        due.is("three STATES", x.prop(3, 0), NONE);
        due.is("two STATES", x.prop(2, 0), 0);
        due.is("ALL then", x.count(3), 16384);
    }

    @Edge("Promise 2: BUILT: refused while a GROUP plays, taken when it has left")
    static void propWhilePlaying(Due due) {
        LockedHouse x = Houses.of(2);
        Houses.lastGroupPlays(x);
        due.is("refused", x.prop(2, 1), NONE);
        due.countsAre("as it was", x, 1, 0, 0, 2, 2, 1, 0, 0, 0);
        x.leave(3);
        due.is("taken", x.prop(2, 1), 1);
    }

    @Edge("Promise 2: what was asked ahead of a PROP is walked anew behind it")
    static void propAsksAnew(Due due) {
        LockedHouse x = Houses.of(2);
        x.goal(0, 1);
        Houses.go(x, 5, 0, 1);
        due.is("least ahead", x.least(0), 5);
        x.prop(2, 1);
        due.is("the FIRST CODE", x.comes(2), 1);
        due.is("the one that was FIRST", x.comes(0), 0);
        due.is("least behind", x.least(2), 5);
    }

    // ---- Promise 3: step

    @Edge("Promise 3: a KIND below 0 or above 3 is refused")
    static void noSuchKind(Due due) {
        LockedHouse x = new LockedHouse();
        for (int kind : new int[] {-1, 4, LEAST, MOST}) {
            due.is("KIND " + kind, x.step(kind, 1, 1, 0), NONE);
        }
        due.countsAre("nothing built", x, 0, 0, 0, 1);
    }

    @Edge("Promise 3: KINDS 0 .. 3 are taken: the STEP's number, from 0; only 2 and 3 double ALL")
    static void kindsAsTold(Due due) {
        LockedHouse x = new LockedHouse();
        int[] all = {1, 1, 2, 4};
        for (int kind = 0; kind < 4; kind++) {
            due.is("KIND " + kind, x.step(kind, 1, 1, 0), kind);
            due.is("ALL", x.count(3), all[kind]);
        }
    }

    @Edge("Promise 3: HANDS below 1 or above 9 are refused")
    static void noSuchHandsOfAStep(Due due) {
        LockedHouse x = new LockedHouse();
        for (int hands : new int[] {0, -1, 10, LEAST, MOST}) {
            due.is("HANDS " + hands, x.step(0, hands, 1, 0), NONE);
        }
        due.is("nothing built", x.count(1), 0);
    }

    @Edge("Promise 3: HANDS 1 and 9 are taken")
    static void handsOfAStep(Due due) {
        LockedHouse x = Houses.of(2);
        x.goal(0, 1);
        due.is("1", x.step(0, 1, 1, 0), 0);
        due.is("9", x.step(0, 9, 1, 0), 1);
        x.hands(1);
        due.is("open by 1", x.open(0), 1);
        x.hands(8);
        due.is("open by 8", x.open(0), 1);
        x.hands(9);
        due.is("open by 9", x.open(0), 3);
    }

    @Edge("Promise 3: TICKS below 1 or above 100 are refused")
    static void noSuchTicks(Due due) {
        LockedHouse x = new LockedHouse();
        for (int ticks : new int[] {0, -1, 101, LEAST, MOST}) {
            due.is("TICKS " + ticks, x.step(0, 1, ticks, 0), NONE);
        }
        due.is("nothing built", x.count(1), 0);
    }

    @Edge("Promise 3: TICKS 1 and 100 are taken")
    static void leastAndMostTicks(Due due) {
        LockedHouse x = Houses.of(3);
        x.goal(0, 2);
        due.is("1", Houses.go(x, 1, 1, 2), 0);
        due.is("100", Houses.go(x, 100, 0, 2), 1);
        due.is("least by 1", x.least(1), 1);
        due.is("least by 100", x.least(0), 100);
    }

    @Edge("Promise 3: a ROOM below 0 or above 7 is refused")
    static void noSuchRoom(Due due) {
        LockedHouse x = new LockedHouse();
        for (int room : new int[] {-1, 8, LEAST, MOST}) {
            due.is("ROOM " + room, x.step(0, 1, 1, room), NONE);
        }
        due.is("nothing built", x.count(1), 0);
    }

    @Edge("Promise 3: ROOMS 0 and 7 are taken")
    static void leastAndMostRoom(Due due) {
        LockedHouse x = Houses.of(2);
        x.goal(0, 1);
        due.is("0", x.step(0, 1, 1, 0), 0);
        due.is("7", x.step(0, 1, 1, 7), 1);
        x.enter(1);
        x.act(0, 0);
        due.is("in 0", x.group(0, 3), 0);
        x.act(0, 1);
        due.is("in 7", x.group(0, 3), 7);
    }

    @Edge("Promise 3: the 24th STEP is taken, a 25th is refused")
    static void step25(Due due) {
        LockedHouse x = Houses.of(2);
        for (int s = 0; s < 24; s++) {
            due.is("STEP", x.step(s % 2, 1, 1, 0), s);
        }
        for (int kind = 0; kind < 4; kind++) {
            due.is("a 25th of KIND " + kind, x.step(kind, 1, 1, 0), NONE);
        }
        due.countsAre("as it was", x, 1, 24, 0, 2);
    }

    @Edge("Promise 3: a STEP by which there would be 20736 CODES is refused if of KIND 2 or 3")
    static void stepOfTooManyCodes(Due due) {
        LockedHouse x = Houses.of(4, 4, 4, 2, 3, 3, 3, 3);
        due.is("ALL", x.count(3), 10368);
        due.is("ONCE", x.step(2, 1, 1, 0), NONE);
        due.is("LAST", x.step(3, 1, 1, 0), NONE);
        due.countsAre("as it was", x, 8, 0, 0, 10368);
        due.is("a STEP", x.step(0, 1, 1, 0), 0);
        due.is("EITHER", x.step(1, 1, 1, 0), 1);
    }

    @Edge("Promise 3: a STEP of KIND 3 by which there are 18432 CODES is taken")
    static void stepOfManyCodes(Due due) {
        LockedHouse x = Houses.of(4, 4, 4, 4, 4, 3, 3);
        due.is("ALL", x.count(3), 9216);
        due.is("LAST", x.step(3, 1, 1, 0), 0);
        due.is("ALL then", x.count(3), 18432);
        due.is("one more", x.step(2, 1, 1, 0), NONE);
    }

    @Edge("Promise 3: BUILT: refused while a GROUP plays, taken when it has left")
    static void stepWhilePlaying(Due due) {
        LockedHouse x = Houses.of(2);
        Houses.lastGroupPlays(x);
        due.is("refused", x.step(2, 1, 1, 0), NONE);
        due.countsAre("as it was", x, 1, 0, 0, 2);
        x.leave(3);
        due.is("taken", x.step(2, 1, 1, 0), 0);
    }

    @Edge("Promise 3: what was asked ahead of a STEP is walked anew behind it")
    static void stepAsksAnew(Due due) {
        LockedHouse x = Houses.of(2);
        x.goal(0, 1);
        due.is("longest ahead", x.longest(), 0);
        Houses.idleStep(x, 0);
        due.is("longest behind", x.longest(), SPENT);
        due.is("not idle", x.idle(), 0);
    }

    // ---- Promise 4: need

    /** PROPS of 2, 3 and 2 STATES and one STEP that can be done until the last PROP has STATE 1. */
    private static LockedHouse oneStep() {
        LockedHouse x = Houses.of(2, 3, 2);
        x.goal(2, 1);
        Houses.idleStep(x, 0);
        return x;
    }

    @Edge("Promise 4: no such STEP")
    static void needOfNoStep(Due due) {
        LockedHouse x = oneStep();
        for (int s : new int[] {-1, 1, 24, LEAST, MOST}) {
            due.no("STEP " + s, x.need(s, 0, 0));
        }
        due.no("no STEP at all", Houses.of(2).need(0, 0, 0));
    }

    @Edge("Promise 4: no such PROP")
    static void needOfNoProp(Due due) {
        LockedHouse x = oneStep();
        for (int p : new int[] {-1, 3, 12, LEAST, MOST}) {
            due.no("PROP " + p, x.need(0, p, 0));
        }
        LockedHouse y = new LockedHouse();
        Houses.idleStep(y, 0);
        due.no("no PROP at all", y.need(0, 0, 0));
    }

    @Edge("Promise 4: no such STATE of this PROP")
    static void needOfNoState(Due due) {
        LockedHouse x = oneStep();
        for (int state : new int[] {-1, 2, LEAST, MOST}) {
            due.no("STATE " + state + " of two", x.need(0, 0, state));
        }
        due.no("STATE 3 of three", x.need(0, 1, 3));
        due.is("nothing is asked for", x.open(0), 1);
        due.yes("STATE 2 of three", x.need(0, 1, 2));
        due.is("STATE 2 is asked for", x.open(0), 0);
    }

    @Edge("Promise 4: a fourth NEED is taken, a fifth is refused, the same again or not")
    static void fifthNeed(Due due) {
        LockedHouse x = oneStep();
        due.yes("a first", x.need(0, 0, 0));
        due.yes("the same again", x.need(0, 0, 0));
        due.yes("a third", x.need(0, 1, 0));
        due.yes("a fourth", x.need(0, 2, 0));
        due.no("a fifth", x.need(0, 1, 2));
        due.no("a fifth, the same again", x.need(0, 0, 0));
        due.is("the fifth is not asked for", x.open(0), 1);
        due.is("the first is", x.open(1), 0);
        due.is("the third is", x.open(2), 0);
    }

    @Edge("Promise 4: the fourth NEED is asked for")
    static void fourthNeedCounts(Due due) {
        LockedHouse x = oneStep();
        for (int n = 0; n < 3; n++) {
            x.need(0, 0, 0);
        }
        due.is("three of them", x.open(0), 1);
        due.yes("a fourth", x.need(0, 1, 1));
        due.is("not so", x.open(0), 0);
        due.is("so", x.open(2), 1);
    }

    @Edge("Promise 4: each STEP has four NEEDS of its own")
    static void needsOfEachStep(Due due) {
        LockedHouse x = oneStep();
        Houses.idleStep(x, 1);
        for (int n = 0; n < 4; n++) {
            due.yes("of STEP 0", x.need(0, 0, 1));
        }
        due.yes("of STEP 1", x.need(1, 0, 0));
        due.is("open", x.open(0), 2);
    }

    @Edge("Promise 4: BUILT: refused while a GROUP plays, taken when it has left")
    static void needWhilePlaying(Due due) {
        LockedHouse x = oneStep();
        Houses.lastGroupPlays(x);
        due.no("refused", x.need(0, 0, 1));
        due.is("as it was", x.open(0), 1);
        x.leave(3);
        due.yes("taken", x.need(0, 0, 1));
        due.is("asked for", x.open(0), 0);
    }

    @Edge("Promise 4: what was asked ahead of a NEED is walked anew behind it")
    static void needAsksAnew(Due due) {
        LockedHouse x = Houses.of(2);
        x.goal(0, 1);
        Houses.idleStep(x, 0);
        x.give(0, 0, 1);
        due.is("least ahead", x.least(0), 1);
        x.need(0, 0, 1);
        due.is("least behind", x.least(0), SPENT);
        due.is("reached", x.reached(), 1);
    }

    // ---- Promise 5: give

    @Edge("Promise 5: no such STEP")
    static void giveOfNoStep(Due due) {
        LockedHouse x = oneStep();
        for (int s : new int[] {-1, 1, 24, LEAST, MOST}) {
            due.no("STEP " + s, x.give(s, 0, 1));
        }
        due.is("gives nothing", x.behind(0, 0), 0);
    }

    @Edge("Promise 5: no such PROP")
    static void giveOfNoProp(Due due) {
        LockedHouse x = oneStep();
        for (int p : new int[] {-1, 3, 12, LEAST, MOST}) {
            due.no("PROP " + p, x.give(0, p, 1));
        }
        due.is("gives nothing", x.behind(0, 0), 0);
    }

    @Edge("Promise 5: no such STATE of this PROP")
    static void giveOfNoState(Due due) {
        LockedHouse x = oneStep();
        for (int state : new int[] {-1, 2, LEAST, MOST}) {
            due.no("STATE " + state + " of two", x.give(0, 0, state));
        }
        due.no("STATE 3 of three", x.give(0, 1, 3));
        due.is("gives nothing", x.behind(0, 0), 0);
        due.yes("STATE 2 of three", x.give(0, 1, 2));
        due.is("gives it", x.behind(0, 0), 4);
    }

    @Edge("Promise 5: it gives this PROP a STATE: another one and the same are refused")
    static void giveTwice(Due due) {
        LockedHouse x = oneStep();
        due.yes("STATE 2", x.give(0, 1, 2));
        due.no("another", x.give(0, 1, 1));
        due.no("the same", x.give(0, 1, 2));
        due.is("gives what was told first", x.behind(0, 0), 4);
        due.yes("another PROP", x.give(0, 0, 1));
    }

    @Edge("Promise 5: another STEP may give the same PROP a STATE")
    static void giveOfAnotherStep(Due due) {
        LockedHouse x = oneStep();
        Houses.idleStep(x, 0);
        due.yes("STEP 0", x.give(0, 0, 1));
        due.yes("STEP 1", x.give(1, 0, 1));
        due.is("behind STEP 1", x.behind(0, 1), 1);
    }

    @Edge("Promise 5: a fourth is taken, a fifth is refused")
    static void fifthGive(Due due) {
        LockedHouse x = Houses.alike(6, 2);
        x.goal(5, 1);
        Houses.idleStep(x, 0);
        for (int p = 0; p < 4; p++) {
            due.yes("PROP " + p, x.give(0, p, 1));
        }
        due.no("a fifth", x.give(0, 4, 1));
        due.is("gives four", x.behind(0, 0), 15);
    }

    @Edge("Promise 5: BUILT: refused while a GROUP plays, taken when it has left")
    static void giveWhilePlaying(Due due) {
        LockedHouse x = oneStep();
        Houses.lastGroupPlays(x);
        due.no("refused", x.give(0, 0, 1));
        due.is("as it was", x.behind(0, 0), 0);
        x.leave(3);
        due.yes("taken", x.give(0, 0, 1));
        due.is("gives it", x.behind(0, 0), 1);
    }

    @Edge("Promise 5: what was asked ahead of what it GIVES is walked anew behind it")
    static void giveAsksAnew(Due due) {
        LockedHouse x = Houses.of(2);
        x.goal(0, 1);
        Houses.idleStep(x, 0);
        due.is("least ahead", x.least(0), SPENT);
        x.give(0, 0, 1);
        due.is("least behind", x.least(0), 1);
        due.is("reached", x.reached(), 2);
    }

    // ---- Promise 6: goal

    @Edge("Promise 6: no such PROP")
    static void goalOfNoProp(Due due) {
        due.no("no PROP at all", new LockedHouse().goal(0, 0));
        LockedHouse x = Houses.of(2, 3);
        for (int p : new int[] {-1, 2, 12, LEAST, MOST}) {
            due.no("PROP " + p, x.goal(p, 0));
        }
        due.is("no pair", x.count(2), 0);
    }

    @Edge("Promise 6: no such STATE of this PROP")
    static void goalOfNoState(Due due) {
        LockedHouse x = Houses.of(2, 3);
        for (int state : new int[] {-1, 2, LEAST, MOST}) {
            due.no("STATE " + state + " of two", x.goal(0, state));
        }
        due.no("STATE 3 of three", x.goal(1, 3));
        due.is("no pair", x.count(2), 0);
        due.yes("STATE 2 of three", x.goal(1, 2));
        due.is("least in it", x.least(4), 0);
    }

    @Edge("Promise 6: a sixth pair is taken, a seventh is refused, the same again or not")
    static void seventhGoal(Due due) {
        LockedHouse x = Houses.of(2, 2, 2);
        for (int n = 0; n < 5; n++) {
            due.yes("the same again", x.goal(0, 1));
        }
        due.yes("a sixth", x.goal(1, 1));
        due.no("a seventh", x.goal(2, 1));
        due.no("a seventh, the same again", x.goal(0, 1));
        due.is("six", x.count(2), 6);
        due.is("the sixth is asked for", x.least(1), SPENT);
        due.is("the seventh is not", x.least(3), 0);
    }

    @Edge("Promise 6: BUILT: refused while a GROUP plays, taken when it has left")
    static void goalWhilePlaying(Due due) {
        LockedHouse x = Houses.of(2);
        Houses.lastGroupPlays(x);
        due.no("refused", x.goal(0, 1));
        due.is("as it was", x.least(0), 0);
        due.is("no pair", x.count(2), 0);
        x.leave(3);
        due.yes("taken", x.goal(0, 1));
        due.is("asked for", x.least(0), SPENT);
    }

    @Edge("Promise 6: what was asked ahead of a pair is walked anew behind it")
    static void goalBehindQuestions(Due due) {
        LockedHouse x = Houses.of(3);
        Houses.go(x, 4, 0, 1);
        Houses.go(x, 5, 1, 2);
        due.is("THE END is always: REACHED", x.reached(), 1);
        due.is("least", x.least(0), 0);
        due.is("longest", x.longest(), 0);
        due.yes("a pair", x.goal(0, 2));
        due.is("REACHED then", x.reached(), 3);
        due.is("least then", x.least(0), 9);
        due.is("longest then", x.longest(), 9);
        due.yes("one that can't be so too", x.goal(0, 1));
        due.is("least at last", x.least(0), SPENT);
        due.is("lost at last", x.lost(), 3);
    }

    // ---- Promise 7: hands

    @Edge("Promise 7: below 1 or above 9: false, and HANDS stay")
    static void noSuchHands(Due due) {
        LockedHouse x = new LockedHouse();
        for (int n : new int[] {0, -1, 10, LEAST, MOST}) {
            due.no("hands(" + n + ")", x.hands(n));
            due.is("HANDS", x.count(4), 2);
        }
    }

    @Edge("Promise 7: 1 and 9 are taken, and what is REACHED is walked anew")
    static void leastAndMostHands(Due due) {
        LockedHouse x = Houses.of(2);
        x.goal(0, 1);
        int s = x.step(0, 2, 1, 0);
        x.give(s, 0, 1);
        due.is("REACHED by 2", x.reached(), 2);
        due.yes("hands(1)", x.hands(1));
        due.is("HANDS 1", x.count(4), 1);
        due.is("REACHED by 1", x.reached(), 1);
        due.is("least by 1", x.least(0), SPENT);
        due.yes("hands(9)", x.hands(9));
        due.is("HANDS 9", x.count(4), 9);
        due.is("REACHED by 9", x.reached(), 2);
    }

    @Edge("Promise 7: BUILT: refused while a GROUP plays, taken when it has left")
    static void handsWhilePlaying(Due due) {
        LockedHouse x = Houses.of(2);
        Houses.lastGroupPlays(x);
        due.no("refused", x.hands(3));
        due.is("as it was", x.count(4), 2);
        x.leave(3);
        due.yes("taken", x.hands(3));
        due.is("HANDS", x.count(4), 3);
    }

    // ---- Promise 8: rule

    @Edge("Promise 8: no such PROP")
    static void ruleOfNoProp(Due due) {
        due.no("no PROP at all", new LockedHouse().rule(0, 1, 0));
        LockedHouse x = Houses.of(2, 3);
        for (int p : new int[] {-1, 2, 12, LEAST, MOST}) {
            due.no("PROP " + p, x.rule(p, 0, 0));
        }
    }

    @Edge("Promise 8: no such other PROP")
    static void ruleOfNoOther(Due due) {
        LockedHouse x = Houses.of(2, 3);
        for (int p : new int[] {-1, 2, 12, LEAST, MOST}) {
            due.no("other " + p, x.rule(0, p, 0));
        }
        due.is("no rule", x.back(1), 1);
    }

    @Edge("Promise 8: the other PROP is not itself")
    static void ruleOfItself(Due due) {
        LockedHouse x = Houses.of(2, 3);
        due.no("0 by 0", x.rule(0, 0, 0));
        due.no("1 by 1", x.rule(1, 1, 1));
        due.is("no rule", x.back(1 + 2), 2);
    }

    @Edge("Promise 8: no such STATE of the other PROP")
    static void ruleOfNoState(Due due) {
        LockedHouse x = Houses.of(2, 3);
        for (int state : new int[] {-1, 3, LEAST, MOST}) {
            due.no("STATE " + state + " of three", x.rule(0, 1, state));
        }
        due.no("STATE 2 of two", x.rule(1, 0, 2));
        due.yes("STATE 2 of three", x.rule(0, 1, 2));
        due.is("kept back", x.back(1), SPENT);
    }

    @Edge("Promise 8: a refused rule leaves the one that it has")
    static void refusedRule(Due due) {
        LockedHouse x = Houses.of(2, 3);
        x.rule(0, 1, 2);
        due.no("refused", x.rule(0, 1, 3));
        due.is("still kept back", x.back(1), SPENT);
        due.is("by the same STATE", x.back(1 + 4), 2);
    }

    @Edge("Promise 8: in place of the one that it has")
    static void ruleInPlace(Due due) {
        LockedHouse x = Houses.of(2, 3);
        x.rule(0, 1, 2);
        due.yes("another", x.rule(0, 1, 0));
        due.is("not kept back", x.back(1), 1);
        due.is("both", x.back(1 + 4), 2);
        due.rowIs("1 ahead of 0", x, 1, 0);
    }

    @Edge("Promise 8: BUILT: refused while a GROUP plays, taken when it has left")
    static void ruleWhilePlaying(Due due) {
        LockedHouse x = Houses.of(2, 2);
        Houses.lastGroupPlays(x);
        due.no("refused", x.rule(0, 1, 1));
        due.is("as it was", x.back(1), 1);
        x.leave(3);
        due.yes("taken", x.rule(0, 1, 1));
        due.is("kept back", x.back(1), SPENT);
    }

    // ---- Promise 9: exit

    /** The CODE of a GROUP that an alarm drives out. */
    private static int codeOnAlarm(LockedHouse x) {
        x.enter(1);
        return x.alarm() == 1 ? x.row(0) : NONE;
    }

    @Edge("Promise 9: no such PROP")
    static void exitOfNoProp(Due due) {
        due.no("no PROP at all", new LockedHouse().exit(0, 0));
        LockedHouse x = Houses.of(2, 3);
        for (int p : new int[] {-1, 2, 12, LEAST, MOST}) {
            due.no("PROP " + p, x.exit(p, 1));
        }
        due.is("no exit", codeOnAlarm(x), 0);
    }

    @Edge("Promise 9: no such STATE of this PROP")
    static void exitOfNoState(Due due) {
        LockedHouse x = Houses.of(2, 3);
        for (int state : new int[] {-1, 2, LEAST, MOST}) {
            due.no("STATE " + state + " of two", x.exit(0, state));
        }
        due.no("STATE 3 of three", x.exit(1, 3));
        due.is("no exit", codeOnAlarm(x), 0);
        due.yes("STATE 2 of three", x.exit(1, 2));
        due.is("an exit", codeOnAlarm(x), 4);
    }

    @Edge("Promise 9: in place of the one told; a refused one leaves it")
    static void exitInPlace(Due due) {
        LockedHouse x = Houses.of(2, 3);
        x.exit(1, 1);
        due.yes("another", x.exit(1, 2));
        due.is("the later one", codeOnAlarm(x), 4);
        due.no("refused", x.exit(1, -1));
        due.is("still the later one", codeOnAlarm(x), 4);
        due.yes("STATE 0", x.exit(1, 0));
        due.is("STATE 0 too", codeOnAlarm(x), 0);
    }

    @Edge("Promise 9: each PROP has its own")
    static void exitOfEachProp(Due due) {
        LockedHouse x = Houses.alike(12, 2);
        for (int p = 0; p < 12; p++) {
            due.yes("PROP " + p, x.exit(p, 1));
        }
        due.is("all of them", codeOnAlarm(x), 4095);
    }

    @Edge("Promise 9: BUILT: refused while a GROUP plays, taken when it has left")
    static void exitWhilePlaying(Due due) {
        LockedHouse x = Houses.of(2);
        Houses.lastGroupPlays(x);
        due.no("refused", x.exit(0, 1));
        x.alarm();
        due.rowIs("as it was", x, 0);
        due.yes("taken", x.exit(0, 1));
        due.is("an exit", codeOnAlarm(x), 1);
    }

    // ---- Promise 10: clear

    @Edge("Promise 10: nothing built: 0, and again 0")
    static void clearOfNothing(Due due) {
        LockedHouse x = new LockedHouse();
        due.is("clear", x.clear(), 0);
        due.is("again", x.clear(), 0);
        due.countsAre("as behind the constructor", x, 0, 0, 0, 1, 2, 0, 0, 0, 0);
    }

    @Edge("Promise 10: how many PROPS there were, be it 12; none then")
    static void clearOfTwelve(Due due) {
        LockedHouse x = Houses.alike(12, 2);
        due.is("clear", x.clear(), 12);
        due.is("again", x.clear(), 0);
    }

    @Edge("Promise 10: not refused while all four GROUPS play; none plays then")
    static void clearWhilePlaying(Due due) {
        LockedHouse x = Houses.of(2);
        x.goal(0, 1);
        Houses.idleStep(x, 0);
        for (int g = 0; g < 4; g++) {
            x.enter(2);
        }
        x.act(0, 0);
        due.is("clear", x.clear(), 1);
        due.countsAre("as behind the constructor", x, 0, 0, 0, 1, 2, 0, 0, 0, 0);
        due.throwsNoSuch("group(3, 0)", () -> x.group(3, 0));
        due.is("BUILT calls are taken", x.prop(2, 0), 0);
        due.is("GROUPS from 0 on", x.enter(2), 0);
        due.groupIs("it begins anew", x, 0, 0, 2, 0, NONE, 0, 1);
    }

    @Edge("Promise 10: all CODES can be built anew")
    static void clearOfTheLargest(Due due) {
        LockedHouse x = Houses.largest();
        Houses.neverEnds(x);
        x.reached();
        x.lost();
        x.clear();
        due.is("REACHED", x.reached(), 1);
        due.is("least", x.least(0), 0);
        due.is("no CODE 1", x.least(1), NONE);
        due.is("nor REACHED", x.comes(1), NONE);
        for (int p = 0; p < 9; p++) {
            due.is("PROP", x.prop(3, 0), p);
        }
        due.is("ALL", x.count(3), Houses.MOST_CODES);
    }

    @Edge("Promise 10: STEPS, NEEDS and GIVES are gone: 24 anew, each with four")
    static void clearOfSteps(Due due) {
        LockedHouse x = Houses.of(2);
        for (int s = 0; s < 24; s++) {
            Houses.go(x, 1, 0, 1);
        }
        x.clear();
        x.prop(2, 0);
        x.goal(0, 1);
        for (int s = 0; s < 24; s++) {
            due.is("STEP", x.step(0, 1, 1, 0), s);
        }
        due.is("no NEEDS", x.open(0), 0xFFFFFF);
        due.is("no GIVES", x.behind(0, 0), 0);
    }

    @Edge("Promise 10: THE END is always again, and has six pairs anew")
    static void clearOfTheEnd(Due due) {
        LockedHouse x = Houses.of(2);
        for (int n = 0; n < 6; n++) {
            x.goal(0, 1);
        }
        x.clear();
        x.prop(2, 0);
        x.prop(2, 0);
        due.is("least", x.least(0), 0);
        for (int n = 0; n < 6; n++) {
            due.yes("a pair", x.goal(1, 1));
        }
        due.no("a seventh", x.goal(1, 1));
        due.is("the pairs told anew", x.least(2), 0);
        due.is("not those told ahead", x.least(1), SPENT);
    }

    @Edge("Promise 10: the FIRST CODE is 0 again")
    static void clearOfTheFirstCode(Due due) {
        LockedHouse x = new LockedHouse();
        x.prop(4, 3);
        x.clear();
        due.is("FIRST CODE", x.count(8), 0);
        x.prop(2, 1);
        due.is("FIRST CODE anew", x.count(8), 1);
    }

    @Edge("Promise 10: HANDS 2 again")
    static void clearOfHands(Due due) {
        LockedHouse x = new LockedHouse();
        x.hands(9);
        x.clear();
        due.is("HANDS", x.count(4), 2);
    }

    @Edge("Promise 10: BACK RULES and exits are gone")
    static void clearOfRulesAndExits(Due due) {
        LockedHouse x = Houses.of(2, 2);
        x.rule(0, 1, 1);
        x.exit(0, 1);
        x.clear();
        x.prop(2, 0);
        x.prop(2, 0);
        due.is("back", x.back(1), 1);
        due.is("alarm", codeOnAlarm(x), 0);
    }

    @Edge("Promise 10: the ROW is empty")
    static void clearOfTheRow(Due due) {
        LockedHouse x = Houses.of(2, 2);
        x.back(3);
        due.is("two numbers", x.count(6), 2);
        x.clear();
        due.rowIs("none", x);
    }

    @Edge("Promise 10: the log is empty, MOVES in all are 0")
    static void clearOfTheLog(Due due) {
        LockedHouse x = Houses.of(2);
        x.goal(0, 1);
        Houses.idleStep(x, 0);
        x.enter(1);
        for (int n = 0; n < 201; n++) {
            x.act(0, 0);
        }
        x.clear();
        due.is("MOVES", x.count(7), 0);
        due.is("log(0, 0)", x.log(0, 0), NONE);
        due.is("log(199, 0)", x.log(199, 0), NONE);
        x.prop(2, 1);
        x.goal(0, 0);
        x.step(0, 1, 1, 0);
        x.enter(1);
        x.act(0, 0);
        due.is("the first MOVE anew", x.log(0, 2), 1);
        due.is("no other", x.log(1, 2), NONE);
    }

    // ---- Promise 11: count

    @Edge("Promise 11: another what: NONE")
    static void countOfNothing(Due due) {
        LockedHouse x = Houses.of(2);
        for (int what : new int[] {-1, 9, 10, LEAST, MOST}) {
            due.is("count(" + what + ")", x.count(what), NONE);
        }
    }

    @Edge("Promise 11: what 0 .. 8, each another number")
    static void countOfEach(Due due) {
        LockedHouse x = new LockedHouse();
        x.prop(4, 3);
        x.prop(3, 2);
        x.goal(1, 1);
        x.hands(7);
        for (int s = 0; s < 5; s++) {
            x.step(s == 4 ? 2 : 0, 1, 1, s);
        }
        for (int g = 0; g < 4; g++) {
            x.enter(1);
            x.act(g, g);
            x.act(g, g);
        }
        x.leave(2);
        x.back(0);
        x.way(0);
        due.countsAre("each", x, 2, 5, 1, 24, 7, 3, 2, 8, 11);
    }

    @Edge("Promise 11: what 5: none, and all four GROUPS")
    static void countOfGroups(Due due) {
        LockedHouse x = new LockedHouse();
        for (int g = 0; g < 4; g++) {
            due.is("ahead", x.count(5), g);
            x.enter(1);
        }
        due.is("four", x.count(5), 4);
        x.enter(1);
        due.is("no fifth", x.count(5), 4);
        x.alarm();
        due.is("none", x.count(5), 0);
    }

    @Edge("Promise 11: what 6: 0 of an empty ROW, and more than 256 numbers")
    static void countOfTheRow(Due due) {
        LockedHouse x = Houses.of(4, 4, 4, 4, 2);
        Houses.counter(x);
        int again = x.step(2, 1, 1, 0);
        int out = x.step(3, 1, 1, 0);
        for (int p = 0; p < 4; p++) {
            x.need(again, p, 3);
            x.give(again, p, 0);
            x.need(out, p, 3);
        }
        x.give(out, 4, 1);
        due.is("THE END", x.way(0), 0);
        due.is("empty", x.count(6), 0);
        x.goal(4, 1);
        due.is("way", x.way(0), 512);
        due.is("512", x.count(6), 512);
        due.is("the last of them", x.row(511), out);
        due.is("the 256th", x.row(255), again);
        due.is("the 257th", x.row(256), Houses.counterStep(0));
    }

    @Edge("Promise 11: what 7: MOVES that were made, no others, more than the log keeps")
    static void countOfMoves(Due due) {
        LockedHouse x = Houses.of(2, 2);
        x.goal(0, 1);
        Houses.idleStep(x, 0);
        x.step(0, 9, 1, 0);
        x.enter(1);
        x.enter(1);
        for (int n = 0; n < 205; n++) {
            x.act(0, 0);
        }
        due.is("can't be done", x.act(0, 1), 0);
        due.is("another GROUP is there", x.act(1, 0), -3);
        due.is("no such STEP", x.act(0, 2), NONE);
        x.leave(0);
        due.is("MOVES", x.count(7), 205);
    }
}
