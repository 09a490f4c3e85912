/** Boundary cases of promises 28 to 34. */
final class GroupEdges {
    private static final int NONE = LockedHouse.NONE;
    private static final int MET = -3;
    private static final int LEAST = Integer.MIN_VALUE;
    private static final int MOST = Integer.MAX_VALUE;
    private static final int[] NO_GROUPS = {-1, 4, 5, LEAST, MOST};

    private GroupEdges() { }

    /** STEPS 0 .. 3 of 100 TICKS in ROOMS 0 .. 3 give PROP 0 their own numbers: GROUPS can do them again and again. */
    private static LockedHouse treadmill() {
        LockedHouse x = Houses.of(4, 2);
        x.goal(1, 1);
        for (int s = 0; s < 4; s++) {
            x.step(0, 1, 100, s);
            x.give(s, 0, s);
        }
        return x;
    }

    // ---- Promise 28: enter

    @Edge("Promise 28: HANDS below 1 or above 9: NONE")
    static void enterWithOtherHands(Due due) {
        LockedHouse x = Houses.corridor();
        for (int hands : new int[] {0, -1, 10, LEAST, MOST}) {
            due.is("enter(" + hands + ")", x.enter(hands), NONE);
        }
        due.is("none plays", x.count(5), 0);
        due.is("BUILT calls are taken", x.prop(2, 0), 2);
    }

    @Edge("Promise 28: HANDS 1 and 9 are taken")
    static void enterWithLeastAndMost(Due due) {
        LockedHouse x = Houses.corridor();
        due.is("1", x.enter(1), 0);
        due.is("9", x.enter(9), 1);
        due.is("HANDS of 0", x.group(0, 1), 1);
        due.is("HANDS of 1", x.group(1, 1), 9);
    }

    @Edge("Promise 28: four play: NONE")
    static void fifthGroup(Due due) {
        LockedHouse x = Houses.corridor();
        for (int g = 0; g < 4; g++) {
            due.is("enter", x.enter(1), g);
        }
        due.is("a fifth", x.enter(1), NONE);
        due.is("four play", x.count(5), 4);
        x.leave(3);
        due.is("a fourth anew", x.enter(1), 3);
    }

    @Edge("Promise 28: its number: the least that does not play")
    static void leastNumber(Due due) {
        LockedHouse x = Houses.corridor();
        for (int g = 0; g < 4; g++) {
            x.enter(1);
        }
        x.leave(2);
        x.leave(0);
        due.is("0", x.enter(1), 0);
        due.is("2", x.enter(1), 2);
    }

    @Edge("Promise 28: at the FIRST CODE, with nothing of the one that had its number")
    static void beginsAnew(Due due) {
        LockedHouse x = new LockedHouse();
        x.prop(3, 2);
        x.goal(0, 0);
        x.step(0, 1, 9, 5);
        x.give(0, 0, 1);
        x.enter(4);
        x.act(0, 0);
        due.groupIs("played", x, 0, 1, 4, 9, 5, 1, 0);
        x.leave(0);
        x.enter(3);
        due.groupIs("begins", x, 0, 2, 3, 0, NONE, 0, 0);
    }

    // ---- Promise 29: act

    @Edge("Promise 29: NONE: no such GROUP, or it does not play")
    static void actOfNoGroup(Due due) {
        LockedHouse x = Houses.corridor();
        due.is("none plays", x.act(0, 0), NONE);
        x.enter(1);
        x.enter(1);
        x.leave(0);
        for (int g : NO_GROUPS) {
            due.is("GROUP " + g, x.act(g, 0), NONE);
        }
        due.is("it left", x.act(0, 0), NONE);
        due.is("never entered", x.act(2, 0), NONE);
        due.is("no MOVE", x.count(7), 0);
    }

    @Edge("Promise 29: NONE: no such STEP")
    static void actOfNoStep(Due due) {
        LockedHouse x = Houses.corridor();
        x.enter(9);
        for (int s : new int[] {-1, 5, 24, 32, LEAST, MOST}) {
            due.is("STEP " + s, x.act(0, s), NONE);
        }
        due.groupIs("as it was", x, 0, 0, 9, 0, NONE, 0, 0);
        due.is("the last STEP", x.act(0, 4), 1);
    }

    @Edge("Promise 29: NONE where both STEP and ROOM would say otherwise")
    static void noneGoesAhead(Due due) {
        LockedHouse x = Houses.corridor();
        x.enter(1);
        x.act(0, 0);
        due.is("no such GROUP", x.act(1, 4), NONE);
        due.is("no such STEP at all", new LockedHouse().act(0, 0), NONE);
    }

    @Edge("Promise 29: 1: CODE, TICKS, ROOM, MOVES are those then")
    static void done(Due due) {
        LockedHouse x = Houses.corridor();
        x.enter(1);
        due.is("one", x.act(0, 0), 1);
        due.groupIs("one", x, 0, 1, 1, 10, 0, 1, 0);
        due.is("two", x.act(0, 1), 1);
        due.groupIs("two", x, 0, 2, 1, 21, 1, 2, 0);
        due.is("ONCE", x.act(0, 4), 1);
        due.groupIs("ONCE", x, 0, 2 + 8, 1, 28, 0, 3, 0);
    }

    @Edge("Promise 29: 0: a NEED is not so; nothing changes")
    static void cantForNeeds(Due due) {
        LockedHouse x = Houses.corridor();
        x.enter(1);
        due.is("act", x.act(0, 1), 0);
        due.groupIs("as it was", x, 0, 0, 1, 0, NONE, 0, 0);
        due.is("no MOVE", x.count(7), 0);
        due.is("no log", x.log(0, 0), NONE);
    }

    @Edge("Promise 29: 0: one of its HANDS too few; with just as many 1, whatever hands() told")
    static void cantForHands(Due due) {
        LockedHouse x = Houses.corridor();
        x.hands(9);
        x.enter(2);
        x.enter(3);
        due.is("two", x.act(0, 3), 0);
        due.is("three", x.act(1, 3), 1);
        LockedHouse y = Houses.corridor();
        y.hands(1);
        y.enter(3);
        due.is("one is told, three play", y.act(0, 3), 1);
    }

    @Edge("Promise 29: 0: ONCE again; another GROUP can do it")
    static void cantForOnce(Due due) {
        LockedHouse x = Houses.corridor();
        x.enter(1);
        x.enter(1);
        due.is("once", x.act(0, 4), 1);
        due.is("again", x.act(0, 4), 0);
        x.leave(0);
        due.is("another GROUP", x.act(1, 4), 1);
    }

    @Edge("Promise 29: 0: LAST asks for all ONCE of this GROUP, not of another one")
    static void cantForLast(Due due) {
        LockedHouse x = Houses.corridor();
        x.step(3, 1, 1, 5);
        x.enter(1);
        x.enter(1);
        due.is("not yet", x.act(0, 5), 0);
        x.act(0, 4);
        due.is("the other one not", x.act(1, 5), 0);
        due.is("then", x.act(0, 5), 1);
    }

    @Edge("Promise 29: 0: its CODE is of THE END")
    static void cantAtTheEnd(Due due) {
        LockedHouse x = Houses.corridor();
        x.enter(9);
        for (int s = 0; s < 3; s++) {
            x.act(0, s);
        }
        due.is("a STEP", x.act(0, 3), 0);
        due.is("ONCE", x.act(0, 4), 0);
        due.groupIs("as it was", x, 0, 3, 9, 33, 2, 3, 1);
        LockedHouse y = Houses.of(2);
        Houses.idleStep(y, 0);
        y.enter(1);
        due.is("THE END is always", y.act(0, 0), 0);
    }

    @Edge("Promise 29: -3: another GROUP is in that ROOM; nothing changes")
    static void met(Due due) {
        LockedHouse x = Houses.corridor();
        x.enter(1);
        x.enter(1);
        x.act(0, 0);
        due.is("act", x.act(1, 0), MET);
        due.groupIs("as it was", x, 1, 0, 1, 0, NONE, 0, 0);
        due.is("MOVES", x.count(7), 1);
        due.is("log", x.log(1, 0), NONE);
    }

    @Edge("Promise 29: -3 is asked behind 0: too few HANDS, a NEED, THE END go ahead of the ROOM")
    static void cantGoesAheadOfMet(Due due) {
        LockedHouse x = Houses.corridor();
        x.enter(3);
        x.enter(1);
        x.act(0, 3);
        due.is("HANDS", x.act(1, 3), 0);
        x.act(0, 0);
        x.act(0, 1);
        due.is("a NEED", x.act(1, 1), 0);
        x.act(0, 2);
        x.act(1, 4);
        due.is("THE END", x.act(0, 4), 0);
    }

    @Edge("Promise 29: its own ROOM again is no other GROUP's")
    static void ownRoom(Due due) {
        LockedHouse x = treadmill();
        x.enter(1);
        due.is("once", x.act(0, 0), 1);
        due.is("again", x.act(0, 0), 1);
    }

    @Edge("Promise 29: a ROOM is free when its GROUP went on, left, or was driven out")
    static void freeRoom(Due due) {
        LockedHouse x = treadmill();
        x.enter(1);
        x.enter(1);
        x.act(0, 0);
        due.is("taken", x.act(1, 0), MET);
        x.act(0, 1);
        due.is("it went on", x.act(1, 0), 1);
        due.is("taken too", x.act(1, 1), MET);
        x.leave(0);
        due.is("it left", x.act(1, 1), 1);
        x.alarm();
        x.enter(1);
        due.is("driven out", x.act(0, 1), 1);
    }

    @Edge("Promise 29: GROUPS that are nowhere yet bar no ROOM")
    static void nowhereBarsNothing(Due due) {
        LockedHouse x = treadmill();
        for (int g = 0; g < 4; g++) {
            x.enter(1);
        }
        due.is("act", x.act(3, 0), 1);
    }

    @Edge("Promise 29: a GROUP at THE END is in its ROOM until it leaves")
    static void endStaysInItsRoom(Due due) {
        LockedHouse x = Houses.corridor();
        x.enter(1);
        x.enter(1);
        for (int s = 0; s < 3; s++) {
            x.act(0, s);
        }
        x.act(1, 0);
        x.act(1, 1);
        due.is("taken", x.act(1, 2), MET);
        x.leave(0);
        due.is("free", x.act(1, 2), 1);
    }

    // ---- Promise 30: group

    @Edge("Promise 30: NoSuchElementException: no such GROUP, not entered, left, driven out")
    static void noSuchGroup(Due due) {
        LockedHouse x = Houses.corridor();
        x.enter(1);
        for (int g : NO_GROUPS) {
            due.throwsNoSuch("GROUP " + g, () -> x.group(g, 0));
        }
        due.throwsNoSuch("not entered", () -> x.group(1, 0));
        x.leave(0);
        due.throwsNoSuch("left", () -> x.group(0, 0));
        x.enter(1);
        x.alarm();
        due.throwsNoSuch("driven out", () -> x.group(0, 0));
    }

    @Edge("Promise 30: NoSuchElementException: another what")
    static void noSuchWhat(Due due) {
        LockedHouse x = Houses.corridor();
        x.enter(1);
        for (int what : new int[] {-1, 6, LEAST, MOST}) {
            due.throwsNoSuch("what " + what, () -> x.group(0, what));
        }
    }

    @Edge("Promise 30: at first: FIRST CODE, its HANDS, 0 TICKS, no ROOM, 0 MOVES, not at THE END")
    static void groupAtFirst(Due due) {
        LockedHouse x = Houses.corridor();
        x.enter(7);
        due.groupIs("GROUP 0", x, 0, 0, 7, 0, NONE, 0, 0);
    }

    @Edge("Promise 30: what 5: at THE END at once where no pair is told, and by the last STEP")
    static void groupAtTheEnd(Due due) {
        LockedHouse x = new LockedHouse();
        x.enter(1);
        due.is("at once", x.group(0, 5), 1);
        LockedHouse y = Houses.corridor();
        y.enter(1);
        y.act(0, 0);
        y.act(0, 1);
        due.is("one STEP ahead", y.group(0, 5), 0);
        y.act(0, 2);
        due.is("at THE END", y.group(0, 5), 1);
    }

    @Edge("Promise 30: what 2 and 4 of 450 MOVES of 100 TICKS")
    static void manyTicks(Due due) {
        LockedHouse x = treadmill();
        x.enter(1);
        for (int n = 0; n < 450; n++) {
            x.act(0, 0);
        }
        due.is("TICKS", x.group(0, 2), 45000);
        due.is("MOVES", x.group(0, 4), 450);
    }

    // ---- Promise 31: leave

    @Edge("Promise 31: NONE: no such GROUP, not entered, left, driven out")
    static void leaveOfNoGroup(Due due) {
        LockedHouse x = Houses.corridor();
        for (int g : NO_GROUPS) {
            due.is("GROUP " + g, x.leave(g), NONE);
        }
        due.is("not entered", x.leave(0), NONE);
        x.enter(1);
        x.enter(1);
        due.is("leave", x.leave(0), 0);
        due.is("left", x.leave(0), NONE);
        due.is("the other one plays", x.count(5), 1);
        x.alarm();
        due.is("driven out", x.leave(1), NONE);
    }

    @Edge("Promise 31: its TICKS, 0 where it made no MOVE")
    static void leaveWithTicks(Due due) {
        LockedHouse x = Houses.corridor();
        x.enter(1);
        x.enter(1);
        x.act(1, 0);
        x.act(1, 1);
        due.is("no MOVE", x.leave(0), 0);
        due.is("two MOVES", x.leave(1), 21);
    }

    @Edge("Promise 31: BUILT calls are taken when the last GROUP left, not ahead of it")
    static void lastOneLeaves(Due due) {
        LockedHouse x = Houses.corridor();
        for (int g = 0; g < 4; g++) {
            x.enter(1);
        }
        for (int g = 0; g < 4; g++) {
            due.no("one plays", x.hands(5));
            x.leave(g);
        }
        due.yes("none plays", x.hands(5));
    }

    @Edge("Promise 31: the ROW and the log stay")
    static void leaveLeavesTheRest(Due due) {
        LockedHouse x = Houses.corridor();
        x.way(0);
        x.enter(1);
        x.act(0, 0);
        x.leave(0);
        due.rowIs("the ROW", x, 0, 1, 2);
        due.is("the log", x.log(0, 1), 0);
        due.is("MOVES", x.count(7), 1);
    }

    // ---- Promise 32: alarm

    @Edge("Promise 32: no GROUP plays: 0 and an empty ROW")
    static void alarmForNone(Due due) {
        LockedHouse x = Houses.corridor();
        x.way(0);
        due.is("alarm", x.alarm(), 0);
        due.rowIs("alarm", x);
    }

    @Edge("Promise 32: no exit is told: CODES as they are")
    static void alarmWithoutExits(Due due) {
        LockedHouse x = Houses.corridor();
        x.enter(1);
        x.act(0, 0);
        due.is("alarm", x.alarm(), 1);
        due.rowIs("alarm", x, 1);
    }

    @Edge("Promise 32: all four GROUPS, by number, not as they entered")
    static void alarmForFour(Due due) {
        LockedHouse x = treadmill();
        for (int g = 0; g < 4; g++) {
            x.enter(1);
        }
        x.leave(0);
        x.enter(1);
        for (int g = 3; g >= 0; g--) {
            x.act(g, 3 - g);
        }
        x.exit(1, 1);
        due.is("alarm", x.alarm(), 4);
        due.rowIs("exit() was refused", x, 3, 2, 1, 0);
        due.is("none plays", x.count(5), 0);
    }

    @Edge("Promise 32: only GROUPS that play: 1 and 3")
    static void alarmForSome(Due due) {
        LockedHouse x = treadmill();
        x.exit(1, 1);
        for (int g = 0; g < 4; g++) {
            x.enter(1);
        }
        x.act(1, 1);
        x.act(3, 3);
        x.leave(0);
        x.leave(2);
        due.is("alarm", x.alarm(), 2);
        due.rowIs("alarm", x, 1 + 4, 3 + 4);
    }

    @Edge("Promise 32: STEPS that were done stay done, PROPS without an exit as they are")
    static void alarmLeavesTheRest(Due due) {
        LockedHouse x = Houses.corridor();
        x.exit(0, 3);
        x.enter(9);
        x.act(0, 0);
        x.act(0, 3);
        x.act(0, 4);
        due.is("alarm", x.alarm(), 1);
        due.rowIs("alarm", x, 3 + 4 + 8);
    }

    @Edge("Promise 32: an exit to STATE 0, and to the STATE that a PROP has")
    static void alarmToStateZero(Due due) {
        LockedHouse x = Houses.corridor();
        x.exit(0, 0);
        x.exit(1, 1);
        x.enter(9);
        x.act(0, 0);
        x.act(0, 3);
        due.is("alarm", x.alarm(), 1);
        due.rowIs("alarm", x, 4);
    }

    @Edge("Promise 32: none plays then: BUILT calls are taken, the log stays, a GROUP begins at FIRST")
    static void behindAlarm(Due due) {
        LockedHouse x = Houses.corridor();
        x.exit(1, 1);
        x.enter(1);
        x.act(0, 0);
        x.alarm();
        due.yes("BUILT", x.hands(3));
        due.is("MOVES", x.count(7), 1);
        due.is("log", x.log(0, 2), 1);
        due.is("enter", x.enter(1), 0);
        due.is("at FIRST", x.group(0, 0), 0);
    }

    // ---- Promise 33: log

    @Edge("Promise 33: none such: no MOVE yet, i below 0, i of just as many as were made")
    static void logOfNone(Due due) {
        LockedHouse x = treadmill();
        due.is("no MOVE", x.log(0, 0), NONE);
        x.enter(1);
        x.act(0, 0);
        x.act(0, 1);
        for (int i : new int[] {-1, 2, 3, 199, 200, LEAST, MOST}) {
            due.is("log(" + i + ", 1)", x.log(i, 1), NONE);
        }
        due.is("the earliest", x.log(0, 1), 0);
        due.is("the latest", x.log(1, 1), 1);
    }

    @Edge("Promise 33: another what: NONE")
    static void logOfNoWhat(Due due) {
        LockedHouse x = treadmill();
        x.enter(1);
        x.act(0, 0);
        for (int what : new int[] {-1, 3, LEAST, MOST}) {
            due.is("log(0, " + what + ")", x.log(0, what), NONE);
        }
    }

    @Edge("Promise 33: what 0, 1, 2: GROUP, STEP, the CODE behind it")
    static void logOfEach(Due due) {
        LockedHouse x = treadmill();
        for (int g = 0; g < 4; g++) {
            x.enter(1);
        }
        x.act(3, 2);
        due.is("GROUP", x.log(0, 0), 3);
        due.is("STEP", x.log(0, 1), 2);
        due.is("CODE", x.log(0, 2), 2);
    }

    @Edge("Promise 33: 200 MOVES are all kept, by the 201st the earliest is gone")
    static void logWrapsAround(Due due) {
        LockedHouse x = treadmill();
        x.enter(1);
        x.act(0, 3);
        for (int n = 1; n < 200; n++) {
            x.act(0, n % 3);
        }
        due.is("the first of 200", x.log(0, 1), 3);
        due.is("the last of 200", x.log(199, 1), 1);
        due.is("no 201st", x.log(200, 1), NONE);
        x.act(0, 3);
        due.is("the earliest is the second", x.log(0, 1), 1);
        due.is("the one ahead of the latest", x.log(198, 1), 1);
        due.is("the latest", x.log(199, 1), 3);
        due.is("still no 201st", x.log(200, 1), NONE);
    }

    @Edge("Promise 33: twice round: the latest 200 of 401")
    static void logTwiceRound(Due due) {
        LockedHouse x = treadmill();
        x.enter(1);
        for (int n = 0; n < 401; n++) {
            x.act(0, n % 3);
        }
        for (int i = 0; i < 200; i++) {
            due.is("GROUP of " + i, x.log(i, 0), 0);
            due.is("STEP of " + i, x.log(i, 1), (201 + i) % 3);
            due.is("CODE of " + i, x.log(i, 2), (201 + i) % 3);
        }
        due.is("no 201st", x.log(200, 0), NONE);
    }

    @Edge("Promise 33: of all GROUPS, also those that left, in the order in which they were made")
    static void logOfAllGroups(Due due) {
        LockedHouse x = treadmill();
        x.enter(1);
        x.enter(1);
        x.act(1, 1);
        x.leave(1);
        x.act(0, 2);
        x.alarm();
        x.enter(1);
        x.act(0, 3);
        int[][] want = {{1, 1, 1}, {0, 2, 2}, {0, 3, 3}};
        for (int i = 0; i < want.length; i++) {
            for (int what = 0; what < 3; what++) {
                due.is("log(" + i + ", " + what + ")", x.log(i, what), want[i][what]);
            }
        }
    }

    @Edge("Promise 33: what could not be done is no MOVE")
    static void logOfRefused(Due due) {
        LockedHouse x = Houses.corridor();
        x.enter(1);
        x.enter(1);
        x.act(0, 1);
        x.act(0, 9);
        x.act(0, 0);
        x.act(1, 0);
        due.is("the one that was done", x.log(0, 1), 0);
        due.is("no other", x.log(1, 1), NONE);
    }

    // ---- Promise 34: row

    @Edge("Promise 34: nothing was told: NoSuchElementException")
    static void rowOfNothing(Due due) {
        due.rowIs("new", new LockedHouse());
    }

    @Edge("Promise 34: i below 0, i of just as many numbers, and far away")
    static void noSuchNumber(Due due) {
        LockedHouse x = Houses.corridor();
        x.way(0);
        for (int i : new int[] {-1, 3, 4, 255, 256, 20000, LEAST, MOST}) {
            due.throwsNoSuch("row(" + i + ")", () -> x.row(i));
        }
        due.is("the first", x.row(0), 0);
        due.is("the last", x.row(2), 2);
    }

    @Edge("Promise 34: a shorter ROW leaves nothing of the longer one")
    static void shorterRow(Due due) {
        LockedHouse x = Houses.corridor();
        x.way(0);
        x.way(2);
        due.rowIs("one number", x, 2);
        x.way(3);
        due.rowIs("none", x);
    }

    @Edge("Promise 34: calls that tell no ROW leave it as it was")
    static void rowStays(Due due) {
        LockedHouse x = Houses.corridor();
        x.way(0);
        x.reached();
        x.comes(0);
        x.part(0, 0, 0);
        x.open(0);
        x.behind(0, 0);
        x.least(0);
        x.hint(0);
        x.longest();
        x.lost();
        x.must(0, 3, 0, 1);
        x.reading(0, 1);
        x.count(6);
        x.prop(2, 0);
        x.step(0, 1, 1, 0);
        x.hands(3);
        x.enter(1);
        x.act(0, 0);
        x.group(0, 0);
        x.log(0, 0);
        x.leave(0);
        due.rowIs("as it was", x, 0, 1, 2);
    }

    @Edge("Promise 34: each call that tells a ROW tells it in place of the one ahead")
    static void rowOfEachCall(Due due) {
        LockedHouse x = Houses.corridor();
        x.exit(1, 1);
        x.way(1);
        due.rowIs("way", x, 1, 2);
        x.idle();
        due.rowIs("idle", x, 3);
        x.reading(0, 3);
        x.reading(1, 1);
        x.liars();
        due.rowIs("liars", x, 1, 2);
        x.back(5);
        due.rowIs("back", x, 0, 1);
        x.enter(1);
        x.alarm();
        due.rowIs("alarm", x, 4);
        int down = x.step(0, 1, 1, 0);
        x.need(down, 0, 2);
        x.give(down, 0, 1);
        x.give(down, 1, 1);
        x.need(1, 1, 0);
        x.need(2, 1, 0);
        x.trap();
        due.rowIs("trap", x, 2, down, 5);
    }
}
