import java.util.ArrayList;
import java.util.List;
import java.util.NoSuchElementException;

/** The whole face once more over the plain Model: what is refused, GROUPS, the log and the ROW too. */
final class PlainHouse {
    private static final int NONE = -1;

    private static final class Playing {
        List<Integer> in;
        int hands;
        int ticks;
        int room = NONE;
        int moves;
    }

    private Model m = new Model();
    private final Playing[] playing = new Playing[4];
    private final List<int[]> moves = new ArrayList<>();

    private int players() {
        int many = 0;
        for (Playing p : playing) {
            many += p != null ? 1 : 0;
        }
        return many;
    }

    private boolean isProp(int p) {
        return p >= 0 && p < m.states.size();
    }

    private boolean isState(int p, int s) {
        return isProp(p) && s >= 0 && s < m.states.get(p);
    }

    private boolean isStep(int s) {
        return s >= 0 && s < m.steps.size();
    }

    private boolean isCode(int c) {
        return c >= 0 && c < m.all();
    }

    private boolean isGroup(int g) {
        return g >= 0 && g <= 3 && playing[g] != null;
    }

    private static boolean isWithin(int n, int least, int most) {
        return n >= least && n <= most;
    }

    int prop(int k, int first) {
        if (players() > 0 || !isWithin(k, 2, 4) || !isWithin(first, 0, k - 1) || m.states.size() == 12
                || m.all() * k > 20000) {
            return NONE;
        }
        m.states.add(k);
        m.firsts.add(first);
        m.readings.clear();
        m.forget();
        return m.states.size() - 1;
    }

    int step(int kind, int hands, int ticks, int room) {
        if (players() > 0 || !isWithin(kind, 0, 3) || !isWithin(hands, 1, 9) || !isWithin(ticks, 1, 100)
                || !isWithin(room, 0, 7) || m.steps.size() == 24 || kind >= 2 && m.all() * 2 > 20000) {
            return NONE;
        }
        Model.StepOf s = new Model.StepOf();
        s.kind = kind;
        s.hands = hands;
        s.ticks = ticks;
        s.room = room;
        m.steps.add(s);
        m.forget();
        return m.steps.size() - 1;
    }

    boolean need(int step, int prop, int state) {
        if (players() > 0 || !isStep(step) || !isState(prop, state) || m.steps.get(step).needs.size() == 4) {
            return false;
        }
        m.forget();
        return m.steps.get(step).needs.add(new Model.Pair(prop, state));
    }

    boolean give(int step, int prop, int state) {
        if (players() > 0 || !isStep(step) || !isState(prop, state) || m.steps.get(step).gives.size() == 4
                || m.steps.get(step).gives.stream().anyMatch(p -> p.prop() == prop)) {
            return false;
        }
        m.forget();
        return m.steps.get(step).gives.add(new Model.Pair(prop, state));
    }

    boolean goal(int prop, int state) {
        if (players() > 0 || !isState(prop, state) || m.goals.size() == 6) {
            return false;
        }
        m.forget();
        return m.goals.add(new Model.Pair(prop, state));
    }

    boolean hands(int n) {
        if (players() > 0 || !isWithin(n, 1, 9)) {
            return false;
        }
        m.hands = n;
        m.forget();
        return true;
    }

    boolean rule(int prop, int other, int state) {
        if (players() > 0 || !isProp(prop) || !isState(other, state) || prop == other) {
            return false;
        }
        m.rules.put(prop, new Model.Pair(other, state));
        return true;
    }

    boolean exit(int prop, int state) {
        if (players() > 0 || !isState(prop, state)) {
            return false;
        }
        m.exits.put(prop, state);
        return true;
    }

    int clear() {
        int props = m.states.size();
        m = new Model();
        moves.clear();
        for (int g = 0; g < 4; g++) {
            playing[g] = null;
        }
        return props;
    }

    int count(int what) {
        int[] all = {m.states.size(), m.steps.size(), m.goals.size(), m.all(), m.hands, players(), m.row.size(),
            moves.size(), m.code(m.start())};
        return isWithin(what, 0, 8) ? all[what] : NONE;
    }

    int reached() {
        return m.reached().size();
    }

    int comes(int code) {
        return !isCode(code) ? NONE : m.reached().contains(code) ? 1 : 0;
    }

    int part(int code, int what, int i) {
        if (isCode(code) && what == 0 && isProp(i)) {
            return m.situation(code).get(i);
        }
        if (isCode(code) && what == 1 && isStep(i)) {
            return m.done(m.situation(code), i) ? 1 : 0;
        }
        throw new NoSuchElementException();
    }

    int open(int code) {
        return !isCode(code) ? NONE : m.moves(m.situation(code)).stream().mapToInt(v -> 1 << v.step()).sum();
    }

    int behind(int code, int step) {
        if (!isCode(code)) {
            return NONE;
        }
        for (Model.Move v : m.moves(m.situation(code))) {
            if (v.step() == step) {
                return m.code(v.to());
            }
        }
        return NONE;
    }

    int least(int code) {
        return isCode(code) ? m.least(code) : NONE;
    }

    int hint(int code) {
        return isCode(code) ? m.hint(code) : NONE;
    }

    int way(int code) {
        return isCode(code) ? m.way(code) : NONE;
    }

    int longest() {
        return m.longest();
    }

    int trap() {
        return m.trap();
    }

    int lost() {
        return m.lost();
    }

    int must(int a, int s, int b, int t) {
        return isState(a, s) && isState(b, t) ? m.must(new Model.Pair(a, s), new Model.Pair(b, t)) : NONE;
    }

    int idle() {
        return m.idle();
    }

    boolean reading(int prop, int state) {
        if (isProp(prop) && state == NONE) {
            m.readings.remove(prop);
            return true;
        }
        if (isState(prop, state)) {
            m.readings.put(prop, state);
            return true;
        }
        return false;
    }

    int liars() {
        return m.liars();
    }

    int back(int code) {
        return isCode(code) ? m.back(code) : NONE;
    }

    int enter(int hands) {
        for (int g = 0; g < 4 && isWithin(hands, 1, 9); g++) {
            if (playing[g] == null) {
                playing[g] = new Playing();
                playing[g].hands = hands;
                playing[g].in = m.start();
                return g;
            }
        }
        return NONE;
    }

    int act(int group, int step) {
        if (!isGroup(group) || !isStep(step)) {
            return NONE;
        }
        Playing p = playing[group];
        if (!m.canDo(p.in, step, p.hands)) {
            return 0;
        }
        for (Playing other : playing) {
            if (other != null && other != p && other.room == m.steps.get(step).room) {
                return -3;
            }
        }
        p.in = m.after(p.in, step);
        p.ticks += m.steps.get(step).ticks;
        p.room = m.steps.get(step).room;
        p.moves++;
        moves.add(new int[] {group, step, m.code(p.in)});
        return 1;
    }

    int group(int g, int what) {
        if (!isGroup(g) || !isWithin(what, 0, 5)) {
            throw new NoSuchElementException();
        }
        Playing p = playing[g];
        return new int[] {m.code(p.in), p.hands, p.ticks, p.room, p.moves, m.isEnd(p.in) ? 1 : 0}[what];
    }

    int leave(int group) {
        if (!isGroup(group)) {
            return NONE;
        }
        int ticks = playing[group].ticks;
        playing[group] = null;
        return ticks;
    }

    int alarm() {
        m.row = new ArrayList<>();
        for (int g = 0; g < 4; g++) {
            if (playing[g] != null) {
                m.row.add(m.withExits(m.code(playing[g].in)));
                playing[g] = null;
            }
        }
        return m.row.size();
    }

    int log(int i, int what) {
        List<int[]> latest = moves.subList(Math.max(0, moves.size() - 200), moves.size());
        return isWithin(i, 0, latest.size() - 1) && isWithin(what, 0, 2) ? latest.get(i)[what] : NONE;
    }

    int row(int i) {
        if (!isWithin(i, 0, m.row.size() - 1)) {
            throw new NoSuchElementException();
        }
        return m.row.get(i);
    }
}
