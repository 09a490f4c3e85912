/** Promises 28 to 34. */
final class GroupTest {
    private static final Due DUE = new Due();

    public static void main(String[] args) {
        enters();
        acts();
        ownHands();
        rooms();
        cantComesAheadOfRoom();
        endOfAGroup();
        whatOfAGroup();
        leaves();
        alarms();
        logs();
        rows();
        DUE.end("GroupTest");
    }

    private static void enters() {
        LockedHouse x = new LockedHouse();
        x.prop(3, 2);
        int[] wrong = {0, 10, -1, Integer.MAX_VALUE, Integer.MIN_VALUE};
        for (int n : wrong) {
            DUE.is("enter(" + n + ")", x.enter(n), -1);
        }
        DUE.is("none plays", x.count(5), 0);
        DUE.is("enter(1)", x.enter(1), 0);
        DUE.is("enter(9)", x.enter(9), 1);
        DUE.is("enter(5)", x.enter(5), 2);
        DUE.is("enter(4)", x.enter(4), 3);
        DUE.is("a fifth", x.enter(4), -1);
        int[] want = {2, 9, 0, -1, 0, 1};
        for (int what = 0; what < want.length; what++) {
            DUE.is("group(1, " + what + ")", x.group(1, what), want[what]);
        }
        x.leave(2);
        x.leave(1);
        DUE.is("the least that does not play", x.enter(3), 1);
        DUE.is("the next", x.enter(3), 2);
        DUE.is("again a fifth", x.enter(3), -1);
    }

    private static void acts() {
        LockedHouse x = Houses.corridor();
        DUE.is("no GROUP", x.act(0, 0), -1);
        x.enter(2);
        int[] wrong = {-1, 1, 4, Integer.MAX_VALUE, Integer.MIN_VALUE};
        for (int w : wrong) {
            DUE.is("GROUP " + w, x.act(w, 0), -1);
        }
        int[] noSteps = {-1, 5, 24, 32, Integer.MAX_VALUE, Integer.MIN_VALUE};
        for (int w : noSteps) {
            DUE.is("STEP " + w, x.act(0, w), -1);
        }
        DUE.is("a NEED is not so", x.act(0, 1), 0);
        DUE.is("too few HANDS", x.act(0, 3), 0);
        DUE.is("nothing done", x.group(0, 4), 0);
        DUE.is("done", x.act(0, 0), 1);
        int[] want = {1, 2, 10, 0, 1, 0};
        for (int what = 0; what < want.length; what++) {
            DUE.is("what " + what, x.group(0, what), want[what]);
        }
        DUE.is("ONCE", x.act(0, 4), 1);
        DUE.is("ONCE again", x.act(0, 4), 0);
        DUE.is("the CODE tells it", x.group(0, 0), 1 + 8);
        DUE.is("TICKS", x.group(0, 2), 17);
    }

    private static void ownHands() {
        LockedHouse x = Houses.corridor();
        x.hands(1);
        x.enter(3);
        x.enter(2);
        DUE.is("three HANDS", x.act(0, 3), 1);
        x.leave(0);
        DUE.is("two HANDS", x.act(1, 3), 0);
        LockedHouse y = Houses.corridor();
        y.hands(9);
        y.enter(2);
        DUE.is("nine are told, two play", y.act(0, 3), 0);
    }

    private static void rooms() {
        LockedHouse x = Houses.corridor();
        x.enter(1);
        x.enter(1);
        DUE.is("into room 0", x.act(0, 0), 1);
        DUE.is("0 is there", x.act(1, 0), -3);
        DUE.is("nothing changed: CODE", x.group(1, 0), 0);
        DUE.is("nothing changed: TICKS", x.group(1, 2), 0);
        DUE.is("nothing changed: ROOM", x.group(1, 3), -1);
        DUE.is("nothing changed: MOVES", x.group(1, 4), 0);
        DUE.is("no MOVE made", x.count(7), 1);
        DUE.is("again in its own ROOM", x.act(0, 4), 1);
        DUE.is("on to room 1", x.act(0, 1), 1);
        DUE.is("room 0 is free", x.act(1, 0), 1);
        DUE.is("room 1 is not", x.act(1, 1), -3);
        x.leave(0);
        DUE.is("room 1 is free", x.act(1, 1), 1);
        DUE.is("0 anew", x.enter(1), 0);
        DUE.is("nowhere at first", x.group(0, 3), -1);
    }

    private static void cantComesAheadOfRoom() {
        LockedHouse x = Houses.corridor();
        x.enter(3);
        x.enter(1);
        x.act(0, 3);
        DUE.is("too few HANDS, and 0 is there", x.act(1, 3), 0);
        x.act(0, 0);
        x.act(0, 1);
        DUE.is("a NEED, and 0 is there", x.act(1, 1), 0);
        DUE.is("no such STEP, and 0 is there", x.act(1, 9), -1);
    }

    private static void endOfAGroup() {
        LockedHouse x = Houses.corridor();
        x.enter(9);
        x.enter(9);
        x.act(0, 0);
        x.act(0, 1);
        DUE.is("not yet", x.group(0, 5), 0);
        x.act(0, 2);
        DUE.is("at THE END", x.group(0, 5), 1);
        DUE.is("no more", x.act(0, 3), 0);
        DUE.is("nor ONCE", x.act(0, 4), 0);
        DUE.is("TICKS", x.group(0, 2), 33);
        x.act(1, 0);
        x.act(1, 1);
        DUE.is("still in its ROOM", x.act(1, 2), -3);
    }

    private static void whatOfAGroup() {
        LockedHouse x = Houses.corridor();
        DUE.throwsNoSuch("no GROUP", () -> x.group(0, 0));
        x.enter(1);
        int[] noGroups = {-1, 1, 3, 4, Integer.MAX_VALUE, Integer.MIN_VALUE};
        for (int g : noGroups) {
            DUE.throwsNoSuch("GROUP " + g, () -> x.group(g, 0));
        }
        int[] noWhats = {-1, 6, Integer.MAX_VALUE, Integer.MIN_VALUE};
        for (int what : noWhats) {
            DUE.throwsNoSuch("what " + what, () -> x.group(0, what));
        }
        x.leave(0);
        DUE.throwsNoSuch("it left", () -> x.group(0, 0));
    }

    private static void leaves() {
        LockedHouse x = Houses.corridor();
        int[] wrong = {-1, 0, 3, 4, Integer.MAX_VALUE, Integer.MIN_VALUE};
        for (int g : wrong) {
            DUE.is("leave(" + g + ")", x.leave(g), -1);
        }
        x.enter(1);
        x.act(0, 0);
        x.act(0, 1);
        DUE.is("TICKS", x.leave(0), 21);
        DUE.is("again", x.leave(0), -1);
        x.enter(1);
        DUE.is("TICKS anew", x.group(0, 2), 0);
        DUE.is("MOVES anew", x.group(0, 4), 0);
        DUE.is("MOVES in all", x.count(7), 2);
        DUE.is("nothing yet", x.leave(0), 0);
    }

    private static void alarms() {
        LockedHouse x = Houses.corridor();
        x.back(1);
        DUE.is("none plays", x.alarm(), 0);
        DUE.rowIs("none plays", x);
        x.exit(1, 1);
        for (int g = 0; g < 4; g++) {
            x.enter(1);
        }
        x.act(0, 0);
        x.act(0, 4);
        x.act(3, 0);
        x.act(0, 1);
        x.act(3, 0);
        x.leave(1);
        DUE.is("three", x.alarm(), 3);
        DUE.rowIs("three", x, 2 + 4 + 8, 4, 1 + 4);
        DUE.is("all left", x.count(5), 0);
        DUE.is("MOVES stay", x.count(7), 4);
        DUE.is("exit 0 too", x.exit(0, 3) ? 1 : 0, 1);
        x.enter(2);
        DUE.is("one", x.alarm(), 1);
        DUE.rowIs("one", x, 3 + 4);
        x.enter(2);
        DUE.is("it begins at the FIRST CODE", x.group(0, 0), 0);
    }

    private static void logs() {
        LockedHouse x = Houses.corridor();
        DUE.is("none", x.log(0, 0), -1);
        x.enter(1);
        x.enter(3);
        x.act(1, 3);
        x.act(0, 0);
        x.act(1, 0);
        x.act(0, 1);
        int[][] want = {{1, 3, 4}, {0, 0, 1}, {0, 1, 2}};
        for (int i = 0; i < want.length; i++) {
            for (int what = 0; what < 3; what++) {
                DUE.is("log(" + i + ", " + what + ")", x.log(i, what), want[i][what]);
            }
        }
        int[] wrong = {-1, 3, 200, Integer.MAX_VALUE, Integer.MIN_VALUE};
        for (int w : wrong) {
            DUE.is("log(" + w + ", 0)", x.log(w, 0), -1);
            DUE.is("log(0, " + w + ")", x.log(0, w), -1);
        }
        x.leave(0);
        x.alarm();
        DUE.is("it stays", x.log(2, 1), 1);
        x.clear();
        DUE.is("but for clear", x.log(0, 0), -1);
    }

    private static void rows() {
        LockedHouse x = Houses.corridor();
        DUE.throwsNoSuch("nothing told", () -> x.row(0));
        x.way(0);
        DUE.rowIs("way", x, 0, 1, 2);
        int[] wrong = {-1, 3, 255, 256, 19999, 20000, Integer.MAX_VALUE, Integer.MIN_VALUE};
        for (int w : wrong) {
            DUE.throwsNoSuch("row(" + w + ")", () -> x.row(w));
        }
        x.reached();
        x.least(0);
        x.hint(0);
        x.longest();
        x.lost();
        x.must(0, 3, 0, 1);
        x.reading(0, 1);
        x.prop(2, 0);
        x.enter(1);
        x.act(0, 0);
        x.leave(0);
        DUE.rowIs("calls that do not tell it leave it", x, 0, 1, 2);
        x.idle();
        DUE.rowIs("idle", x, 3);
        x.liars();
        DUE.is("liars", x.count(6), 1);
    }
}
