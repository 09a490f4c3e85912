import java.util.ArrayDeque;
import java.util.ArrayList;
import java.util.Arrays;
import java.util.HashMap;
import java.util.List;
import java.util.Map;
import java.util.TreeMap;
import java.util.TreeSet;

/**
 * The document once more, slow and plain, for comparison: a situation is a list of STATES and of
 * what was done, never a number, and every question is answered by trying all there is.
 */
final class Model {
    record Pair(int prop, int state) { }

    record Move(int step, List<Integer> to) { }

    static final class StepOf {
        int kind;
        int hands;
        int ticks;
        int room;
        final List<Pair> needs = new ArrayList<>();
        final List<Pair> gives = new ArrayList<>();
    }

    final List<Integer> states = new ArrayList<>();
    final List<Integer> firsts = new ArrayList<>();
    final List<StepOf> steps = new ArrayList<>();
    final List<Pair> goals = new ArrayList<>();
    final Map<Integer, Pair> rules = new HashMap<>();
    final Map<Integer, Integer> exits = new HashMap<>();
    final Map<Integer, Integer> readings = new TreeMap<>();
    int hands = 2;
    List<Integer> row = new ArrayList<>();

    private Map<Integer, Integer> leastByCode;

    void forget() {
        leastByCode = null;
    }

    private List<Integer> radices() {
        List<Integer> all = new ArrayList<>(states);
        for (StepOf s : steps) {
            if (s.kind >= 2) {
                all.add(2);
            }
        }
        return all;
    }

    int all() {
        return radices().stream().reduce(1, (a, b) -> a * b);
    }

    List<Integer> situation(int code) {
        List<Integer> digits = new ArrayList<>();
        int rest = code;
        for (int k : radices()) {
            digits.add(rest % k);
            rest /= k;
        }
        return digits;
    }

    int code(List<Integer> situation) {
        List<Integer> radices = radices();
        int code = 0;
        for (int i = radices.size() - 1; i >= 0; i--) {
            code = code * radices.get(i) + situation.get(i);
        }
        return code;
    }

    List<Integer> start() {
        List<Integer> s = new ArrayList<>(firsts);
        while (s.size() < radices().size()) {
            s.add(0);
        }
        return s;
    }

    private int placeOfDone(int step) {
        int place = states.size();
        for (int s = 0; s < step; s++) {
            place += steps.get(s).kind >= 2 ? 1 : 0;
        }
        return place;
    }

    boolean done(List<Integer> in, int step) {
        return steps.get(step).kind >= 2 && in.get(placeOfDone(step)) == 1;
    }

    boolean isSo(List<Integer> in, Pair p) {
        return in.get(p.prop()) == p.state();
    }

    boolean isEnd(List<Integer> in) {
        return goals.stream().allMatch(p -> isSo(in, p));
    }

    boolean canDo(List<Integer> in, int step, int by) {
        StepOf s = steps.get(step);
        boolean all = s.needs.stream().allMatch(p -> isSo(in, p));
        boolean one = s.needs.isEmpty() || s.needs.stream().anyMatch(p -> isSo(in, p));
        boolean can = s.kind == 1 ? one : all;
        if (s.kind >= 2 && done(in, step)) {
            can = false;
        }
        for (int o = 0; o < steps.size(); o++) {
            if (s.kind == 3 && steps.get(o).kind == 2 && !done(in, o)) {
                can = false;
            }
        }
        return can && by >= s.hands && !isEnd(in);
    }

    List<Integer> after(List<Integer> in, int step) {
        List<Integer> to = new ArrayList<>(in);
        for (Pair p : steps.get(step).gives) {
            to.set(p.prop(), p.state());
        }
        if (steps.get(step).kind >= 2) {
            to.set(placeOfDone(step), 1);
        }
        return to;
    }

    List<Move> moves(List<Integer> in) {
        List<Move> moves = new ArrayList<>();
        for (int s = 0; s < steps.size(); s++) {
            if (canDo(in, s, hands)) {
                moves.add(new Move(s, after(in, s)));
            }
        }
        return moves;
    }

    TreeSet<Integer> reached() {
        return reachedWithout(null);
    }

    private TreeSet<Integer> reachedWithout(Pair shunned) {
        TreeSet<Integer> seen = new TreeSet<>();
        ArrayDeque<List<Integer>> open = new ArrayDeque<>();
        if (shunned == null || !isSo(start(), shunned)) {
            open.add(start());
            seen.add(code(start()));
        }
        while (!open.isEmpty()) {
            for (Move m : moves(open.pop())) {
                if ((shunned == null || !isSo(m.to(), shunned)) && seen.add(code(m.to()))) {
                    open.push(m.to());
                }
            }
        }
        return seen;
    }

    /** Sums are made less until none can be. */
    Map<Integer, Integer> leasts() {
        if (leastByCode != null) {
            return leastByCode;
        }
        Map<Integer, Integer> least = new HashMap<>();
        boolean changed = true;
        while (changed) {
            changed = false;
            for (int c = 0; c < all(); c++) {
                int best = isEnd(situation(c)) ? 0 : Integer.MAX_VALUE;
                for (Move m : moves(situation(c))) {
                    Integer rest = least.get(code(m.to()));
                    if (rest != null) {
                        best = Math.min(best, rest + steps.get(m.step()).ticks);
                    }
                }
                if (best < least.getOrDefault(c, Integer.MAX_VALUE)) {
                    least.put(c, best);
                    changed = true;
                }
            }
        }
        leastByCode = least;
        return least;
    }

    int least(int code) {
        return leasts().getOrDefault(code, -2);
    }

    int hint(int code) {
        for (Move m : moves(situation(code))) {
            Integer rest = leasts().get(code(m.to()));
            if (rest != null && rest + steps.get(m.step()).ticks == least(code)) {
                return m.step();
            }
        }
        return -1;
    }

    int way(int code) {
        if (least(code) == -2) {
            return -2;
        }
        List<Integer> way = new ArrayList<>();
        int at = code;
        while (hint(at) != -1) {
            way.add(hint(at));
            at = code(after(situation(at), hint(at)));
        }
        row = way;
        return way.size();
    }

    int longest() {
        return longestFrom(start(), new HashMap<>());
    }

    private int longestFrom(List<Integer> in, Map<Integer, Integer> known) {
        Integer answer = known.get(code(in));
        if (answer != null) {
            return answer;
        }
        // Whoever comes here again before the answer stands has gone round.
        known.put(code(in), -2);
        int best = 0;
        for (Move m : moves(in)) {
            int rest = longestFrom(m.to(), known);
            if (rest == -2) {
                return -2;
            }
            best = Math.max(best, rest + steps.get(m.step()).ticks);
        }
        known.put(code(in), best);
        return best;
    }

    int lost() {
        return (int) reached().stream().filter(c -> least(c) == -2).count();
    }

    int trap() {
        if (lost() == 0) {
            return 0;
        }
        if (least(code(start())) == -2) {
            return 2;
        }
        for (int c : reached()) {
            for (Move m : moves(situation(c))) {
                if (least(c) != -2 && least(code(m.to())) == -2) {
                    row = List.of(c, m.step(), code(m.to()));
                    return 1;
                }
            }
        }
        throw new AssertionError("a trap must be somewhere");
    }

    int must(Pair a, Pair b) {
        return reachedWithout(b).stream().anyMatch(c -> isSo(situation(c), a)) ? 0 : 1;
    }

    int idle() {
        TreeSet<Integer> idle = new TreeSet<>();
        for (int s = 0; s < steps.size(); s++) {
            idle.add(s);
        }
        for (int c : reached()) {
            moves(situation(c)).forEach(m -> idle.remove(m.step()));
        }
        row = new ArrayList<>(idle);
        return idle.size();
    }

    /** All sets of 0, 1, 2, 3 SENSORS, in the order of their numbers. */
    int liars() {
        for (int size = 0; size <= 3; size++) {
            if (tryLiars(new ArrayList<>(), size, 0)) {
                return size;
            }
        }
        return -2;
    }

    private boolean tryLiars(List<Integer> set, int size, int from) {
        if (set.size() == size) {
            int agree = 0;
            for (int c : reached()) {
                boolean all = true;
                for (Map.Entry<Integer, Integer> r : readings.entrySet()) {
                    all &= set.contains(r.getKey()) || situation(c).get(r.getKey()).equals(r.getValue());
                }
                agree += all ? 1 : 0;
            }
            if (agree > 0) {
                row = new ArrayList<>(set);
                row.add(agree);
            }
            return agree > 0;
        }
        for (int p = from; p < states.size(); p++) {
            set.add(p);
            if (tryLiars(set, size, p + 1)) {
                return true;
            }
            set.remove(set.size() - 1);
        }
        return false;
    }

    int back(int code) {
        List<Integer> order = new ArrayList<>();
        if (!putBack(situation(code), order)) {
            return -2;
        }
        row = order;
        return order.size();
    }

    /** Tries PROPS by their numbers, and goes back where it leads nowhere. */
    private boolean putBack(List<Integer> in, List<Integer> order) {
        boolean anyMoved = false;
        for (int p = 0; p < states.size(); p++) {
            if (in.get(p).equals(firsts.get(p))) {
                continue;
            }
            anyMoved = true;
            if (rules.containsKey(p) && !isSo(in, rules.get(p))) {
                continue;
            }
            List<Integer> next = new ArrayList<>(in);
            next.set(p, firsts.get(p));
            order.add(p);
            if (putBack(next, order)) {
                return true;
            }
            order.remove(order.size() - 1);
        }
        return !anyMoved;
    }

    int withExits(int code) {
        List<Integer> in = situation(code);
        exits.forEach(in::set);
        return code(in);
    }

    int[] rowNumbers() {
        return row.stream().mapToInt(Integer::intValue).toArray();
    }

    @Override
    public String toString() {
        return Arrays.toString(rowNumbers());
    }
}
