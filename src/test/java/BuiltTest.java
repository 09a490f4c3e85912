/** Promises 1 to 11. */
final class BuiltTest {
    private static final Due DUE = new Due();

    public static void main(String[] args) {
        newObject();
        props();
        mostProps();
        mostCodes();
        steps();
        mostSteps();
        needs();
        gives();
        goals();
        hands();
        rules();
        exits();
        codesMoveUp();
        nothingIsBuiltWhileAGroupPlays();
        clears();
        counts();
        DUE.end("BuiltTest");
    }

    private static void isNew(String when, LockedHouse x) {
        int[] want = {0, 0, 0, 1, 2, 0, 0, 0, 0};
        for (int what = 0; what < want.length; what++) {
            DUE.is(when + " count(" + what + ")", x.count(what), want[what]);
        }
        DUE.is(when + " log", x.log(0, 0), LockedHouse.NONE);
        DUE.throwsNoSuch(when + " row", () -> x.row(0));
        DUE.throwsNoSuch(when + " group", () -> x.group(0, 0));
        DUE.is(when + " reached", x.reached(), 1);
        DUE.is(when + " least", x.least(0), 0);
        DUE.is(when + " open", x.open(0), 0);
    }

    private static void newObject() {
        isNew("new", new LockedHouse());
        DUE.is("NONE", LockedHouse.NONE, -1);
        DUE.is("SPENT", LockedHouse.SPENT, -2);
    }

    private static void props() {
        LockedHouse x = new LockedHouse();
        int[][] wrong = {{1, 0}, {5, 0}, {0, 0}, {-2, 0}, {2, 2}, {2, -1}, {4, 4}, {3, 3},
            {Integer.MAX_VALUE, 0}, {Integer.MIN_VALUE, 0}, {2, Integer.MIN_VALUE}};
        for (int[] w : wrong) {
            DUE.is("prop(" + w[0] + ", " + w[1] + ")", x.prop(w[0], w[1]), -1);
        }
        DUE.is("nothing built", x.count(0), 0);
        DUE.is("prop(2, 1)", x.prop(2, 1), 0);
        DUE.is("prop(3, 2)", x.prop(3, 2), 1);
        DUE.is("prop(4, 3)", x.prop(4, 3), 2);
        DUE.is("ALL", x.count(3), 24);
        DUE.is("FIRST CODE", x.count(8), 1 + 2 * 2 + 3 * 6);
    }

    private static void mostProps() {
        LockedHouse x = new LockedHouse();
        for (int p = 0; p < 12; p++) {
            DUE.is("prop", x.prop(2, 0), p);
        }
        DUE.is("13th prop", x.prop(2, 0), -1);
        DUE.is("ALL of 12", x.count(3), 4096);
        DUE.is("PROPS", x.count(0), 12);
    }

    private static void mostCodes() {
        LockedHouse x = new LockedHouse();
        for (int p = 0; p < 9; p++) {
            DUE.is("prop of 3", x.prop(3, 2), p);
        }
        DUE.is("ALL 3^9", x.count(3), 19683);
        DUE.is("FIRST CODE 3^9", x.count(8), 19682);
        DUE.is("one PROP more", x.prop(2, 0), -1);
        DUE.is("a ONCE more", x.step(2, 1, 1, 0), -1);
        DUE.is("a LAST more", x.step(3, 1, 1, 0), -1);
        DUE.is("a STEP more", x.step(0, 1, 1, 0), 0);
        DUE.is("an EITHER more", x.step(1, 1, 1, 0), 1);
        DUE.is("ALL stays", x.count(3), 19683);

        LockedHouse y = new LockedHouse();
        for (int s = 0; s < 14; s++) {
            DUE.is("ONCE", y.step(2 + s % 2, 1, 1, 0), s);
        }
        DUE.is("ALL 2^14", y.count(3), 16384);
        DUE.is("ONCE 15", y.step(2, 1, 1, 0), -1);
        DUE.is("PROP behind 14 ONCE", y.prop(2, 0), -1);
    }

    private static void steps() {
        LockedHouse x = new LockedHouse();
        int[][] wrong = {{-1, 1, 1, 0}, {4, 1, 1, 0}, {0, 0, 1, 0}, {0, 10, 1, 0}, {0, -1, 1, 0},
            {0, 1, 0, 0}, {0, 1, 101, 0}, {0, 1, -5, 0}, {0, 1, 1, -1}, {0, 1, 1, 8},
            {Integer.MAX_VALUE, 1, 1, 0}, {0, Integer.MIN_VALUE, 1, 0},
            {0, 1, Integer.MAX_VALUE, 0}, {0, 1, 1, Integer.MIN_VALUE}};
        for (int[] w : wrong) {
            DUE.is("step(" + w[0] + ", " + w[1] + ", " + w[2] + ", " + w[3] + ")", x.step(w[0], w[1], w[2], w[3]), -1);
        }
        DUE.is("no STEP", x.count(1), 0);
        DUE.is("step(0, 1, 1, 0)", x.step(0, 1, 1, 0), 0);
        DUE.is("step(1, 9, 100, 7)", x.step(1, 9, 100, 7), 1);
        DUE.is("ALL 1", x.count(3), 1);
        DUE.is("step(2, 1, 1, 0)", x.step(2, 1, 1, 0), 2);
        DUE.is("ALL 2", x.count(3), 2);
        DUE.is("step(3, 1, 1, 0)", x.step(3, 1, 1, 0), 3);
        DUE.is("ALL 4", x.count(3), 4);
        DUE.is("STEPS", x.count(1), 4);
    }

    private static void mostSteps() {
        LockedHouse x = new LockedHouse();
        for (int s = 0; s < 24; s++) {
            DUE.is("step", x.step(s % 2, 1, 1, 0), s);
        }
        DUE.is("25th", x.step(0, 1, 1, 0), -1);
        DUE.is("STEPS 24", x.count(1), 24);
        x.prop(2, 0);
        x.goal(0, 1);
        DUE.is("24 bits", x.open(0), 0xFFFFFF);
    }

    private static void needs() {
        LockedHouse x = new LockedHouse();
        x.prop(2, 0);
        x.prop(3, 0);
        x.goal(0, 1);
        x.step(0, 1, 1, 0);
        DUE.no("need(1, 0, 0)", x.need(1, 0, 0));
        DUE.no("need(-1, 0, 0)", x.need(-1, 0, 0));
        DUE.no("need(0, 2, 0)", x.need(0, 2, 0));
        DUE.no("need(0, -1, 0)", x.need(0, -1, 0));
        DUE.no("need(0, 0, 2)", x.need(0, 0, 2));
        DUE.no("need(0, 0, -1)", x.need(0, 0, -1));
        DUE.no("need(0, 1, 3)", x.need(0, 1, 3));
        DUE.is("none needed", x.open(0), 1);
        DUE.yes("need(0, 0, 0)", x.need(0, 0, 0));
        DUE.yes("the same again", x.need(0, 0, 0));
        DUE.is("still can be done", x.open(0), 1);
        DUE.yes("need(0, 1, 2)", x.need(0, 1, 2));
        DUE.is("can't be done", x.open(0), 0);
        DUE.is("can be done where it is so", x.open(4), 1);
        DUE.yes("a fourth", x.need(0, 1, 1));
        DUE.no("a fifth", x.need(0, 1, 1));
        DUE.is("two STATES of one PROP", x.open(4), 0);
    }

    private static void gives() {
        LockedHouse x = new LockedHouse();
        for (int p = 0; p < 5; p++) {
            x.prop(2, 0);
        }
        x.goal(4, 1);
        x.step(0, 1, 1, 0);
        DUE.no("give(1, 0, 0)", x.give(1, 0, 0));
        DUE.no("give(-1, 0, 0)", x.give(-1, 0, 0));
        DUE.no("give(0, 5, 0)", x.give(0, 5, 0));
        DUE.no("give(0, -1, 0)", x.give(0, -1, 0));
        DUE.no("give(0, 0, 2)", x.give(0, 0, 2));
        DUE.no("give(0, 0, -1)", x.give(0, 0, -1));
        DUE.is("gives nothing", x.behind(0, 0), 0);
        DUE.yes("give(0, 0, 1)", x.give(0, 0, 1));
        DUE.no("the PROP again", x.give(0, 0, 0));
        DUE.no("the pair again", x.give(0, 0, 1));
        DUE.yes("give(0, 1, 1)", x.give(0, 1, 1));
        DUE.yes("give(0, 2, 1)", x.give(0, 2, 1));
        DUE.yes("give(0, 3, 0)", x.give(0, 3, 0));
        DUE.no("a fifth", x.give(0, 4, 1));
        DUE.is("what it gives", x.behind(0, 0), 7);
        DUE.is("what it gives elsewhere", x.behind(8, 0), 7);
    }

    private static void goals() {
        LockedHouse x = new LockedHouse();
        DUE.no("no PROP", x.goal(0, 0));
        x.prop(2, 0);
        x.prop(2, 0);
        DUE.no("goal(2, 0)", x.goal(2, 0));
        DUE.no("goal(-1, 0)", x.goal(-1, 0));
        DUE.no("goal(0, 2)", x.goal(0, 2));
        DUE.no("goal(0, -1)", x.goal(0, -1));
        DUE.is("without any it is always", x.least(2), 0);
        DUE.yes("goal(0, 1)", x.goal(0, 1));
        DUE.is("in it", x.least(1), 0);
        DUE.is("not in it", x.least(2), -2);
        for (int i = 0; i < 4; i++) {
            DUE.yes("again", x.goal(0, 1));
        }
        DUE.yes("a sixth", x.goal(1, 1));
        DUE.no("a seventh", x.goal(1, 1));
        DUE.is("six", x.count(2), 6);
        DUE.is("all must be so", x.least(1), -2);
        DUE.is("all are so", x.least(3), 0);
    }

    private static void hands() {
        LockedHouse x = new LockedHouse();
        x.prop(2, 0);
        x.goal(0, 1);
        x.step(0, 2, 1, 0);
        x.step(1, 3, 1, 0);
        x.step(2, 9, 1, 0);
        DUE.is("2 at first", x.open(0), 1);
        int[] wrong = {0, 10, -1, Integer.MAX_VALUE, Integer.MIN_VALUE};
        for (int n : wrong) {
            DUE.no("hands(" + n + ")", x.hands(n));
        }
        DUE.is("still 2", x.count(4), 2);
        DUE.yes("hands(1)", x.hands(1));
        DUE.is("open by 1", x.open(0), 0);
        DUE.yes("hands(3)", x.hands(3));
        DUE.is("open by 3", x.open(0), 3);
        DUE.yes("hands(9)", x.hands(9));
        DUE.is("open by 9", x.open(0), 7);
        DUE.is("HANDS", x.count(4), 9);
    }

    private static void rules() {
        LockedHouse x = new LockedHouse();
        DUE.no("no PROP", x.rule(0, 1, 0));
        x.prop(2, 0);
        x.prop(3, 0);
        DUE.no("rule(2, 0, 0)", x.rule(2, 0, 0));
        DUE.no("rule(-1, 0, 0)", x.rule(-1, 0, 0));
        DUE.no("rule(0, 2, 0)", x.rule(0, 2, 0));
        DUE.no("rule(0, -1, 0)", x.rule(0, -1, 0));
        DUE.no("itself", x.rule(0, 0, 0));
        DUE.no("rule(0, 1, 3)", x.rule(0, 1, 3));
        DUE.no("rule(0, 1, -1)", x.rule(0, 1, -1));
        DUE.is("no rule told", x.back(1), 1);
        DUE.yes("the other's STATE", x.rule(0, 1, 2));
        DUE.is("kept back", x.back(1), -2);
        DUE.yes("in its place", x.rule(0, 1, 0));
        DUE.is("not kept back", x.back(1), 1);
    }

    private static void exits() {
        LockedHouse x = new LockedHouse();
        DUE.no("no PROP", x.exit(0, 0));
        x.prop(2, 0);
        x.prop(3, 0);
        DUE.no("exit(2, 0)", x.exit(2, 0));
        DUE.no("exit(-1, 0)", x.exit(-1, 0));
        DUE.no("exit(0, 2)", x.exit(0, 2));
        DUE.no("exit(0, -1)", x.exit(0, -1));
        DUE.yes("exit(1, 1)", x.exit(1, 1));
        DUE.yes("in its place", x.exit(1, 2));
        x.enter(1);
        DUE.is("alarm", x.alarm(), 1);
        DUE.rowIs("alarm", x, 4);
    }

    private static void codesMoveUp() {
        LockedHouse x = new LockedHouse();
        x.prop(2, 0);
        x.step(2, 1, 1, 0);
        x.goal(0, 1);
        DUE.is("done is 2", x.behind(0, 0), 2);
        x.prop(3, 1);
        DUE.is("done is 6", x.behind(2, 0), 8);
        DUE.is("it was done", x.part(8, 1, 0), 1);
        DUE.is("ALL", x.count(3), 12);
    }

    private static void nothingIsBuiltWhileAGroupPlays() {
        LockedHouse x = new LockedHouse();
        x.prop(2, 0);
        x.prop(2, 0);
        x.step(0, 1, 1, 0);
        DUE.is("enter", x.enter(1), 0);
        DUE.is("prop", x.prop(2, 0), -1);
        DUE.is("step", x.step(0, 1, 1, 0), -1);
        DUE.no("need", x.need(0, 0, 0));
        DUE.no("give", x.give(0, 0, 1));
        DUE.no("goal", x.goal(0, 0));
        DUE.no("hands", x.hands(3));
        DUE.no("rule", x.rule(0, 1, 0));
        DUE.no("exit", x.exit(0, 1));
        DUE.yes("reading is not BUILT", x.reading(0, 1));
        DUE.is("leave", x.leave(0), 0);
        DUE.is("prop then", x.prop(2, 0), 2);
        DUE.is("step then", x.step(0, 1, 1, 0), 1);
        DUE.yes("need then", x.need(0, 0, 0));
        DUE.yes("give then", x.give(0, 0, 1));
        DUE.yes("goal then", x.goal(0, 0));
        DUE.yes("hands then", x.hands(3));
        DUE.yes("rule then", x.rule(0, 1, 0));
        DUE.yes("exit then", x.exit(0, 1));
    }

    private static void clears() {
        LockedHouse x = new LockedHouse();
        DUE.is("nothing", x.clear(), 0);
        x.prop(2, 1);
        x.prop(3, 1);
        x.step(0, 1, 1, 0);
        x.give(0, 0, 0);
        x.goal(0, 0);
        x.hands(7);
        x.rule(0, 1, 0);
        x.exit(0, 1);
        x.reading(0, 0);
        x.back(0);
        x.enter(2);
        x.enter(2);
        x.act(0, 0);
        DUE.is("clear while GROUPS play", x.clear(), 2);
        isNew("cleared", x);
        DUE.is("again", x.clear(), 0);
        x.prop(2, 0);
        x.prop(2, 0);
        DUE.is("no READING left", x.liars(), 0);
        DUE.is("no rule left", x.back(3), 2);
        DUE.is("GROUP 0 anew", x.enter(3), 0);
        DUE.is("no exit left", x.alarm(), 1);
        DUE.rowIs("alarm", x, 0);
    }

    private static void counts() {
        LockedHouse x = new LockedHouse();
        x.prop(3, 1);
        x.prop(2, 0);
        x.step(2, 1, 1, 0);
        x.give(0, 0, 2);
        x.goal(1, 1);
        x.hands(5);
        x.enter(1);
        x.enter(1);
        x.enter(1);
        x.leave(1);
        x.act(0, 0);
        x.back(2 + 3);
        int[] want = {2, 1, 1, 12, 5, 2, 2, 1, 1};
        for (int what = 0; what < want.length; what++) {
            DUE.is("count(" + what + ")", x.count(what), want[what]);
        }
        int[] wrong = {9, -1, Integer.MAX_VALUE, Integer.MIN_VALUE};
        for (int what : wrong) {
            DUE.is("count(" + what + ")", x.count(what), -1);
        }
    }
}
