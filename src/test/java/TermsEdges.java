/** Boundary cases that "What it is" and "Terms" name. */
final class TermsEdges {
    private TermsEdges() { }

    // ---- What it is

    @Edge("What it is: the 512th call of an object is answered as the first")
    static void lastCallIsAnswered(Due due) {
        LockedHouse x = Houses.of(2);
        Houses.neverEnds(x);
        Houses.idleStep(x, 0);
        x.enter(1);
        int calls = 5;
        for (; calls < 510; calls++) {
            due.is("act", x.act(0, 0), 1);
        }
        due.is("call 511: count(7)", x.count(7), 505);
        due.is("call 512: group(0, 2)", x.group(0, 2), 505);
    }

    // ---- Terms 1: KINDS

    @Edge("Terms 1: a STEP without NEEDS can always be done")
    static void stepWithoutNeeds(Due due) {
        LockedHouse x = Houses.of(2);
        x.goal(0, 1);
        Houses.idleStep(x, 0);
        due.is("open", x.open(0), 1);
    }

    @Edge("Terms 1: a STEP: all NEEDS but one are not enough")
    static void stepAsksForAllNeeds(Due due) {
        LockedHouse x = fourNeeds(0);
        due.is("none is so", x.open(0), 0);
        due.is("three are so", x.open(7), 0);
        due.is("three others are so", x.open(14), 0);
        due.is("all are so", x.open(15), 1);
    }

    @Edge("Terms 1: EITHER: none of its NEEDS is so, and just one is")
    static void eitherAsksForOneNeed(Due due) {
        LockedHouse x = fourNeeds(1);
        due.is("none is so", x.open(0), 0);
        due.is("only the first is so", x.open(1), 1);
        due.is("only the last is so", x.open(8), 1);
        due.is("all are so", x.open(15), 1);
    }

    @Edge("Terms 1: EITHER without NEEDS can be done")
    static void eitherWithoutNeeds(Due due) {
        LockedHouse x = Houses.of(2);
        x.goal(0, 1);
        Houses.idleStep(x, 1);
        due.is("open", x.open(0), 1);
        due.is("behind", x.behind(0, 0), 0);
    }

    @Edge("Terms 1: EITHER can be done again and again, and no CODE tells of it")
    static void eitherIsNotTold(Due due) {
        LockedHouse x = Houses.of(2);
        x.goal(0, 1);
        Houses.idleStep(x, 1);
        due.is("ALL", x.count(3), 2);
        x.enter(1);
        due.is("done", x.act(0, 0), 1);
        due.is("done again", x.act(0, 0), 1);
    }

    @Edge("Terms 1: ONCE asks for all its NEEDS")
    static void onceAsksForAllNeeds(Due due) {
        LockedHouse x = fourNeeds(2);
        due.is("three are so", x.open(7), 0);
        due.is("all are so", x.open(15), 1);
    }

    @Edge("Terms 1: ONCE: only if it was not done")
    static void onceIsNotDoneTwice(Due due) {
        LockedHouse x = Houses.of(2);
        x.goal(0, 1);
        Houses.idleStep(x, 2);
        due.is("not done", x.open(0), 1);
        due.is("done", x.behind(0, 0), 2);
        due.is("was done", x.open(2), 0);
    }

    @Edge("Terms 1: LAST: only if it was not done")
    static void lastIsNotDoneTwice(Due due) {
        LockedHouse x = Houses.of(2);
        x.goal(0, 1);
        Houses.idleStep(x, 3);
        due.is("behind", x.behind(0, 0), 2);
        due.is("was done", x.open(2), 0);
    }

    @Edge("Terms 1: LAST asks for all its NEEDS")
    static void lastAsksForAllNeeds(Due due) {
        LockedHouse x = fourNeeds(3);
        due.is("three are so", x.open(7), 0);
        due.is("all are so", x.open(15), 1);
    }

    @Edge("Terms 1: LAST where there is no ONCE can be done")
    static void lastWithoutOnce(Due due) {
        LockedHouse x = Houses.of(2);
        x.goal(0, 1);
        Houses.idleStep(x, 3);
        Houses.idleStep(x, 0);
        Houses.idleStep(x, 1);
        due.is("open", x.open(0), 7);
    }

    @Edge("Terms 1: LAST: all ONCE but one are not enough, be it ahead of it or behind it")
    static void lastAsksForEveryOnce(Due due) {
        LockedHouse x = Houses.of(2);
        x.goal(0, 1);
        int ahead = Houses.idleStep(x, 2);
        int last = Houses.idleStep(x, 3);
        int behind = Houses.idleStep(x, 2);
        // Weights: 2, 4, 8.
        due.is("none", x.open(0), 1 << ahead | 1 << behind);
        due.is("the one ahead", x.open(2), 1 << behind);
        due.is("the one behind", x.open(8), 1 << ahead);
        due.is("both", x.open(10), 1 << last);
    }

    @Edge("Terms 1: LAST does not ask for another LAST")
    static void lastAsksForNoLast(Due due) {
        LockedHouse x = Houses.of(2);
        x.goal(0, 1);
        Houses.idleStep(x, 3);
        Houses.idleStep(x, 3);
        due.is("both can be done", x.open(0), 3);
        due.is("the second when the first was done", x.open(2), 2);
    }

    @Edge("Terms 1: no STEP of any KIND can be done with one of the HANDS fewer, each with just as many")
    static void fewerHands(Due due) {
        LockedHouse x = Houses.of(2);
        x.goal(0, 1);
        for (int kind : new int[] {0, 1, 2, 3}) {
            x.step(kind, 5, 1, 0);
        }
        int onceDone = 2;
        x.hands(4);
        due.is("by 4", x.open(onceDone), 0);
        due.is("by 4, ONCE not done", x.open(0), 0);
        x.hands(5);
        due.is("by 5", x.open(onceDone), 1 + 2 + 8);
        due.is("by 5, ONCE not done", x.open(0), 1 + 2 + 4);
    }

    /** A STEP of a KIND that needs STATE 1 of PROPS 0 .. 3. */
    private static LockedHouse fourNeeds(int kind) {
        LockedHouse x = Houses.alike(5, 2);
        x.goal(4, 1);
        x.step(kind, 1, 1, 0);
        for (int p = 0; p < 4; p++) {
            x.need(0, p, 1);
        }
        return x;
    }

    // ---- Terms 1: CODES

    @Edge("Terms 1: without PROPS and STEPS there is one CODE, 0, the FIRST one")
    static void oneCode(Due due) {
        LockedHouse x = new LockedHouse();
        due.is("ALL", x.count(3), 1);
        due.is("FIRST CODE", x.count(8), 0);
    }

    @Edge("Terms 1: STEPS alone have CODES too")
    static void stepsAlone(Due due) {
        LockedHouse x = new LockedHouse();
        Houses.idleStep(x, 2);
        Houses.idleStep(x, 3);
        due.is("ALL", x.count(3), 4);
        due.is("STEP 0 in CODE 1", x.part(1, 1, 0), 1);
        due.is("STEP 1 in CODE 1", x.part(1, 1, 1), 0);
        due.is("STEP 1 in CODE 2", x.part(2, 1, 1), 1);
    }

    @Edge("Terms 1: the greatest CODE: all PROPS at their last STATE, all STEPS done")
    static void greatestCode(Due due) {
        LockedHouse x = Houses.of(2, 3, 4);
        Houses.idleStep(x, 2);
        Houses.idleStep(x, 3);
        int greatest = 2 * 3 * 4 * 4 - 1;
        due.is("ALL", x.count(3), greatest + 1);
        for (int p = 0; p < 3; p++) {
            due.is("PROP " + p, x.part(greatest, 0, p), p + 1);
        }
        due.is("STEP 0", x.part(greatest, 1, 0), 1);
        due.is("STEP 1", x.part(greatest, 1, 1), 1);
    }

    @Edge("Terms 1: STEPS of KIND 0 and 1 between those of KIND 2 and 3 have no part in a CODE")
    static void codesPassOverOtherKinds(Due due) {
        LockedHouse x = Houses.of(3);
        x.goal(0, 1);
        for (int kind : new int[] {0, 2, 1, 3}) {
            Houses.idleStep(x, kind);
        }
        due.is("ALL", x.count(3), 12);
        due.is("behind ONCE", x.behind(0, 1), 3);
        due.is("behind LAST", x.behind(3, 3), 9);
        due.is("behind a STEP", x.behind(0, 0), 0);
        due.is("behind EITHER", x.behind(0, 2), 0);
    }

    @Edge("Terms 1: a PROP told behind a STEP stands ahead of it in a CODE")
    static void propBehindAStep(Due due) {
        LockedHouse x = Houses.of(2);
        Houses.idleStep(x, 2);
        Houses.neverEnds(x);
        due.is("done is 2", x.behind(0, 0), 2);
        x.prop(3, 2);
        due.is("FIRST CODE", x.count(8), 4);
        due.is("done is 6", x.behind(4, 0), 10);
        due.is("the PROP in it", x.part(10, 0, 1), 2);
        due.is("the STEP in it", x.part(10, 1, 0), 1);
    }

    @Edge("Terms 1: the FIRST CODE: all PROPS FIRST be it the last STATE, nothing done")
    static void firstCodeOfLastStates(Due due) {
        LockedHouse x = new LockedHouse();
        x.prop(4, 3);
        x.prop(3, 2);
        x.prop(2, 1);
        Houses.idleStep(x, 2);
        due.is("FIRST CODE", x.count(8), 23);
        due.is("not done", x.part(23, 1, 0), 0);
    }

    // ---- Terms 1: THE END and MOVES

    @Edge("Terms 1: without any pair each CODE is THE END")
    static void endWithoutPairs(Due due) {
        LockedHouse x = Houses.of(3);
        Houses.go(x, 1, 0, 1);
        for (int code = 0; code < 3; code++) {
            due.is("least " + code, x.least(code), 0);
            due.is("open " + code, x.open(code), 0);
        }
    }

    @Edge("Terms 1: all six pairs but one are not THE END")
    static void endAsksForAllPairs(Due due) {
        LockedHouse x = Houses.alike(6, 2);
        for (int p = 0; p < 6; p++) {
            x.goal(p, 1);
        }
        due.is("all", x.least(63), 0);
        for (int p = 0; p < 6; p++) {
            due.is("all but " + p, x.least(63 - (1 << p)), LockedHouse.SPENT);
        }
    }

    @Edge("Terms 1: pairs of two STATES of one PROP are never so")
    static void endThatCantBe(Due due) {
        LockedHouse x = Houses.of(2);
        Houses.neverEnds(x);
        due.is("least 0", x.least(0), LockedHouse.SPENT);
        due.is("least 1", x.least(1), LockedHouse.SPENT);
        due.is("trap", x.trap(), 2);
    }

    @Edge("Terms 1: a MOVE perhaps to the same CODE")
    static void moveToTheSameCode(Due due) {
        LockedHouse x = Houses.of(2);
        x.goal(0, 1);
        Houses.go(x, 1, 0, 0);
        due.is("it is a MOVE", x.open(0), 1);
        due.is("behind", x.behind(0, 0), 0);
        due.is("not idle", x.idle(), 0);
    }

    @Edge("Terms 1: from a CODE that is THE END no MOVE goes")
    static void noMoveFromTheEnd(Due due) {
        LockedHouse x = Houses.of(3);
        x.goal(0, 1);
        Houses.go(x, 1, 0, 1);
        Houses.go(x, 1, 1, 2);
        due.is("open", x.open(1), 0);
        due.is("behind", x.behind(1, 1), LockedHouse.NONE);
        due.is("what would be behind", x.comes(2), 0);
    }

    @Edge("Terms 1: GIVES change no other PROP, and those that are so already stay so")
    static void givesOfWhatIsSo(Due due) {
        LockedHouse x = Houses.of(3, 3, 2);
        x.goal(2, 1);
        int s = Houses.idleStep(x, 0);
        x.give(s, 0, 2);
        x.give(s, 1, 0);
        due.is("from nothing", x.behind(0, s), 2);
        due.is("already so", x.behind(2, s), 2);
        due.is("down to 0", x.behind(1 + 3 * 2, s), 2);
    }

    // ---- Terms 2

    @Edge("Terms 2: at most one pair: a second BACK RULE takes the place of the first")
    static void oneRuleEach(Due due) {
        LockedHouse x = Houses.alike(3, 2);
        x.rule(0, 1, 1);
        x.rule(0, 2, 0);
        due.is("1 is no more asked for", x.back(1), 1);
    }

    @Edge("Terms 2: a PROP without a BACK RULE can be put back at once")
    static void noRule(Due due) {
        LockedHouse x = Houses.alike(2, 2);
        due.is("both", x.back(3), 2);
        due.rowIs("both", x, 0, 1);
    }

    @Edge("Terms 2: GROUPS 0 .. 3, each with its own CODE, HANDS, TICKS, ROOM")
    static void groupsApart(Due due) {
        LockedHouse x = Houses.of(4, 2);
        x.goal(1, 1);
        for (int s = 0; s < 4; s++) {
            x.step(0, 1, 10 + s, 4 + s);
            x.give(s, 0, s);
        }
        for (int g = 0; g < 4; g++) {
            due.is("enter", x.enter(g + 1), g);
            due.is("act", x.act(g, g), 1);
        }
        for (int g = 0; g < 4; g++) {
            due.groupIs("GROUP " + g, x, g, g, g + 1, 10 + g, 4 + g, 1, 0);
        }
    }

    @Edge("Terms 2: two are never in one ROOM, be it 0 or 7")
    static void neverInOneRoom(Due due) {
        for (int room = 0; room < 8; room += 7) {
            LockedHouse x = Houses.of(2);
            x.goal(0, 1);
            x.step(0, 1, 1, room);
            x.enter(1);
            x.enter(1);
            due.is("the first", x.act(1, 0), 1);
            due.is("the other", x.act(0, 0), -3);
        }
    }

    @Edge("Terms 2: calls that are not BUILT are answered while a GROUP plays")
    static void questionsWhileAGroupPlays(Due due) {
        LockedHouse x = Houses.of(3);
        x.goal(0, 2);
        Houses.go(x, 4, 0, 1);
        Houses.go(x, 5, 1, 2);
        x.enter(1);
        x.act(0, 0);
        due.is("reached", x.reached(), 3);
        due.is("least of the FIRST CODE", x.least(0), 9);
        due.is("hint where it is", x.hint(x.group(0, 0)), 1);
        due.is("way", x.way(0), 2);
        due.is("longest", x.longest(), 9);
        due.is("trap", x.trap(), 0);
        due.is("lost", x.lost(), 0);
        due.is("must", x.must(0, 2, 0, 1), 1);
        due.is("idle", x.idle(), 0);
        due.is("liars", x.liars(), 0);
        due.is("back", x.back(1), 1);
    }

    @Edge("Terms 2: what is REACHED is walked by HANDS as told, not by those of a GROUP")
    static void walkedByHandsAsTold(Due due) {
        LockedHouse x = Houses.of(2);
        x.goal(0, 1);
        int s = x.step(0, 3, 1, 0);
        x.give(s, 0, 1);
        x.enter(3);
        due.is("a GROUP of three can", x.act(0, s), 1);
        due.is("two can't", x.reached(), 1);
        due.is("nor is it open", x.open(0), 0);
    }
}
