import java.util.ArrayList;
import java.util.List;
import java.util.Map;
import java.util.Random;
import java.util.TreeMap;

/** Houses of many kinds, each asked beside the plain Model; seeds are fixed, so runs are alike. */
final class ModelTest {
    private static final Due DUE = new Due();

    public static void main(String[] args) {
        for (int seed = 0; seed < 1500; seed++) {
            Random random = new Random(seed);
            LockedHouse x = new LockedHouse();
            Model m = new Model();
            if (seed % 3 == 0) {
                buildGraph(x, m, random);
            } else {
                build(x, m, random);
            }
            String name = "seed " + seed + " ";
            compareCodes(name, x, m);
            compareAll(name, x, m, random);
            // Building goes on behind the first questions, so nothing kept may go stale.
            change(x, m, random);
            compareCodes(name + "changed ", x, m);
            compareAll(name + "changed ", x, m, random);
            compareGroups(name, x, m, random);
        }
        DUE.end("ModelTest");
    }

    private static void build(LockedHouse x, Model m, Random random) {
        int props = 1 + random.nextInt(4);
        for (int p = 0; p < props; p++) {
            addProp(x, m, random);
        }
        int steps = random.nextInt(7);
        for (int s = 0; s < steps; s++) {
            addStep(x, m, random);
        }
        int goals = random.nextInt(4) == 0 ? 0 : 1 + random.nextInt(2);
        for (int g = 0; g < goals; g++) {
            addGoal(x, m, random);
        }
        for (int p = 0; p < props; p++) {
            addRule(x, m, random, p);
        }
    }

    /** STEPS that go from one CODE to another alone: any graph of 16 or 27 CODES, every other one without rings. */
    private static void buildGraph(LockedHouse x, Model m, Random random) {
        int k = 3 + random.nextInt(2);
        int props = k == 3 ? 3 : 2;
        for (int p = 0; p < props; p++) {
            DUE.is("prop", x.prop(k, 0), p);
            m.states.add(k);
            m.firsts.add(0);
        }
        boolean hasRings = random.nextBoolean();
        for (int s = 0; s < 22; s++) {
            Model.StepOf step = new Model.StepOf();
            step.hands = 1;
            step.ticks = 1 + random.nextInt(random.nextBoolean() ? 100 : 10);
            step.room = random.nextInt(8);
            DUE.is("step", x.step(0, 1, step.ticks, step.room), s);
            m.steps.add(step);
            int one = random.nextInt(m.all());
            int other = random.nextInt(m.all());
            int from = hasRings ? one : Math.min(one, other);
            int to = hasRings ? other : Math.max(one, other);
            if (!hasRings && from == to || random.nextInt(4) == 0) {
                from = 0;
                to = 1 + random.nextInt(m.all() - 1);
            }
            for (int p = 0; p < props; p++) {
                step.needs.add(new Model.Pair(p, m.situation(from).get(p)));
                step.gives.add(new Model.Pair(p, m.situation(to).get(p)));
                DUE.yes("need", x.need(s, p, m.situation(from).get(p)));
                DUE.yes("give", x.give(s, p, m.situation(to).get(p)));
            }
        }
        int end = m.all() - 1 - random.nextInt(3);
        for (int p = 0; p < props; p++) {
            m.goals.add(new Model.Pair(p, m.situation(end).get(p)));
            DUE.yes("goal", x.goal(p, m.situation(end).get(p)));
        }
        m.forget();
    }

    private static void addProp(LockedHouse x, Model m, Random random) {
        int k = 2 + random.nextInt(3);
        int first = random.nextInt(k);
        if (m.all() * k <= 300) {
            DUE.is("prop", x.prop(k, first), m.states.size());
            m.states.add(k);
            m.firsts.add(first);
            m.readings.clear();
            m.forget();
        }
    }

    private static Model.Pair pair(Model m, Random random) {
        int prop = random.nextInt(m.states.size());
        return new Model.Pair(prop, random.nextInt(m.states.get(prop)));
    }

    private static void addStep(LockedHouse x, Model m, Random random) {
        Model.StepOf step = new Model.StepOf();
        step.kind = random.nextInt(3) == 0 ? random.nextInt(4) : 0;
        if (step.kind >= 2 && m.all() * 2 > 300) {
            step.kind = 1;
        }
        step.hands = 1 + random.nextInt(random.nextInt(3) == 0 ? 9 : 2);
        step.ticks = 1 + random.nextInt(random.nextBoolean() ? 100 : 4);
        step.room = random.nextInt(8);
        int s = x.step(step.kind, step.hands, step.ticks, step.room);
        DUE.is("step", s, m.steps.size());
        m.steps.add(step);
        int needs = random.nextInt(4);
        for (int n = 0; n < needs; n++) {
            Model.Pair p = pair(m, random);
            DUE.yes("need", x.need(s, p.prop(), p.state()));
            step.needs.add(p);
        }
        int gives = 1 + random.nextInt(3);
        for (int n = 0; n < gives; n++) {
            Model.Pair p = pair(m, random);
            boolean isNew = step.gives.stream().noneMatch(g -> g.prop() == p.prop());
            DUE.is("give", x.give(s, p.prop(), p.state()) ? 1 : 0, isNew ? 1 : 0);
            if (isNew) {
                step.gives.add(p);
            }
        }
        m.forget();
    }

    private static void addGoal(LockedHouse x, Model m, Random random) {
        Model.Pair p = pair(m, random);
        DUE.yes("goal", x.goal(p.prop(), p.state()));
        m.goals.add(p);
        m.forget();
    }

    private static void addRule(LockedHouse x, Model m, Random random, int prop) {
        Model.Pair p = pair(m, random);
        boolean can = prop < m.states.size() && p.prop() != prop;
        if (random.nextInt(3) > 0) {
            DUE.is("rule", x.rule(prop, p.prop(), p.state()) ? 1 : 0, can ? 1 : 0);
            if (can) {
                m.rules.put(prop, p);
            }
        }
    }

    private static void change(LockedHouse x, Model m, Random random) {
        switch (random.nextInt(5)) {
            case 0 -> addProp(x, m, random);
            case 1 -> addStep(x, m, random);
            case 2 -> addGoal(x, m, random);
            case 3 -> {
                m.hands = 1 + random.nextInt(9);
                m.forget();
                DUE.yes("hands", x.hands(m.hands));
            }
            default -> addRule(x, m, random, 0);
        }
    }

    private static void compareCodes(String name, LockedHouse x, Model m) {
        DUE.is(name + "ALL", x.count(3), m.all());
        DUE.is(name + "FIRST CODE", x.count(8), m.code(m.start()));
        var reached = m.reached();
        for (int c = 0; c < m.all(); c++) {
            String at = name + "code " + c + " ";
            List<Integer> in = m.situation(c);
            DUE.is(at + "comes", x.comes(c), reached.contains(c) ? 1 : 0);
            for (int p = 0; p < m.states.size(); p++) {
                DUE.is(at + "part 0", x.part(c, 0, p), in.get(p));
            }
            int bits = 0;
            for (int s = 0; s < m.steps.size(); s++) {
                boolean can = m.canDo(in, s, m.hands);
                bits |= can ? 1 << s : 0;
                DUE.is(at + "part 1", x.part(c, 1, s), m.done(in, s) ? 1 : 0);
                DUE.is(at + "behind", x.behind(c, s), can ? m.code(m.after(in, s)) : -1);
            }
            DUE.is(at + "open", x.open(c), bits);
            DUE.is(at + "least", x.least(c), m.least(c));
            DUE.is(at + "hint", x.hint(c), m.hint(c));
            DUE.is(at + "way", x.way(c), m.way(c));
            sameRow(at + "way", x, m);
            DUE.is(at + "back", x.back(c), m.back(c));
            sameRow(at + "back", x, m);
        }
    }

    private static void sameRow(String name, LockedHouse x, Model m) {
        DUE.rowIs(name, x, m.rowNumbers());
    }

    private static void compareAll(String name, LockedHouse x, Model m, Random random) {
        DUE.is(name + "reached", x.reached(), m.reached().size());
        DUE.is(name + "longest", x.longest(), m.longest());
        DUE.is(name + "longest again", x.longest(), m.longest());
        DUE.is(name + "lost", x.lost(), m.lost());
        DUE.is(name + "trap", x.trap(), m.trap());
        sameRow(name + "trap", x, m);
        DUE.is(name + "idle", x.idle(), m.idle());
        sameRow(name + "idle", x, m);
        for (int n = 0; n < 12; n++) {
            Model.Pair a = pair(m, random);
            Model.Pair b = pair(m, random);
            DUE.is(name + "must " + a + b, x.must(a.prop(), a.state(), b.prop(), b.state()), m.must(a, b));
        }
        for (int n = 0; n < 6; n++) {
            Model.Pair r = pair(m, random);
            if (random.nextInt(5) == 0) {
                DUE.yes(name + "reading none", x.reading(r.prop(), -1));
                m.readings.remove(r.prop());
            } else {
                DUE.yes(name + "reading", x.reading(r.prop(), r.state()));
                m.readings.put(r.prop(), r.state());
            }
            DUE.is(name + "liars " + m.readings, x.liars(), m.liars());
            sameRow(name + "liars", x, m);
        }
    }

    private static final class Playing {
        List<Integer> in;
        int hands;
        int ticks;
        int room = -1;
        int moves;
    }

    private static void compareGroups(String name, LockedHouse x, Model m, Random random) {
        for (int n = 0; n < 2; n++) {
            Model.Pair e = pair(m, random);
            DUE.yes(name + "exit", x.exit(e.prop(), e.state()));
            m.exits.put(e.prop(), e.state());
        }
        Map<Integer, Playing> playing = new TreeMap<>();
        List<int[]> log = new ArrayList<>();
        for (int n = 0; n < 60; n++) {
            int g = random.nextInt(4);
            int deed = random.nextInt(12);
            if (deed == 0) {
                enter(name, x, m, playing, 1 + random.nextInt(9));
            } else if (deed == 1 && random.nextInt(4) == 0) {
                Playing left = playing.remove(g);
                DUE.is(name + "leave", x.leave(g), left == null ? -1 : left.ticks);
            } else if (deed == 2 && random.nextInt(8) == 0) {
                alarm(name, x, m, playing);
            } else {
                act(name, x, m, playing, log, g, random.nextInt(m.steps.size() + 1));
            }
            compareGroup(name, x, m, playing, g);
        }
        DUE.is(name + "MOVES", x.count(7), log.size());
        for (int i = 0; i < log.size(); i++) {
            for (int what = 0; what < 3; what++) {
                DUE.is(name + "log", x.log(i, what), log.get(i)[what]);
            }
        }
    }

    private static void enter(String name, LockedHouse x, Model m, Map<Integer, Playing> playing, int hands) {
        int number = 0;
        while (playing.containsKey(number)) {
            number++;
        }
        DUE.is(name + "enter", x.enter(hands), number > 3 ? -1 : number);
        if (number <= 3) {
            Playing p = new Playing();
            p.in = m.start();
            p.hands = hands;
            playing.put(number, p);
        }
    }

    private static void act(String name, LockedHouse x, Model m, Map<Integer, Playing> playing,
            List<int[]> log, int g, int s) {
        Playing p = playing.get(g);
        int want;
        if (p == null || s >= m.steps.size()) {
            want = -1;
        } else if (!m.canDo(p.in, s, p.hands)) {
            want = 0;
        } else if (playing.values().stream().anyMatch(o -> o != p && o.room == m.steps.get(s).room)) {
            want = -3;
        } else {
            want = 1;
            p.in = m.after(p.in, s);
            p.ticks += m.steps.get(s).ticks;
            p.room = m.steps.get(s).room;
            p.moves++;
            log.add(new int[] {g, s, m.code(p.in)});
        }
        DUE.is(name + "act " + g + " " + s, x.act(g, s), want);
    }

    private static void alarm(String name, LockedHouse x, Model m, Map<Integer, Playing> playing) {
        m.row = new ArrayList<>();
        playing.values().forEach(p -> m.row.add(m.withExits(m.code(p.in))));
        DUE.is(name + "alarm", x.alarm(), playing.size());
        playing.clear();
        sameRow(name + "alarm", x, m);
    }

    private static void compareGroup(String name, LockedHouse x, Model m, Map<Integer, Playing> playing, int g) {
        DUE.is(name + "GROUPS", x.count(5), playing.size());
        Playing p = playing.get(g);
        if (p == null) {
            DUE.throwsNoSuch(name + "group", () -> x.group(g, 0));
            return;
        }
        int[] want = {m.code(p.in), p.hands, p.ticks, p.room, p.moves, m.isEnd(p.in) ? 1 : 0};
        for (int what = 0; what < want.length; what++) {
            DUE.is(name + "group " + what, x.group(g, what), want[what]);
        }
    }
}
