import java.util.ArrayList;
import java.util.Arrays;
import java.util.NoSuchElementException;

/** A house of locked rooms, as ../shared/DOC.md promises it; words in capitals are the document's. */
public final class LockedHouse {
    public static final int NONE = -1;
    public static final int SPENT = -2;

    private static final int MET = -3;
    private static final int MOST_PROPS = 12;
    private static final int LEAST_STATES = 2;
    private static final int MOST_STATES = 4;
    private static final int MOST_STEPS = 24;
    private static final int MOST_NEEDS = 4;
    private static final int MOST_GIVES = 4;
    private static final int MOST_GOALS = 6;
    private static final int MOST_CODES = 20000;
    private static final int FEW_CODES = 256;
    private static final int MOST_HANDS = 9;
    private static final int HANDS_AT_FIRST = 2;
    private static final int MOST_TICKS = 100;
    private static final int ROOMS = 8;
    private static final int KINDS = 4;
    private static final int EITHER = 1;
    private static final int ONCE = 2;
    private static final int LAST = 3;
    private static final int MOST_GROUPS = 4;
    private static final int MOST_LOGGED = 200;
    private static final int MOST_LIARS = 3;

    private final House house;
    private final Row told;
    private final Diary diary;
    private final ArrayList<Group> groups;
    private final int[] order;
    private Walk walk;

    public LockedHouse() {
        house = new House();
        told = new Row();
        diary = new Diary();
        groups = new ArrayList<>();
        for (int g = 0; g < MOST_GROUPS; g++) {
            groups.add(new Group());
        }
        order = new int[MOST_PROPS];
        walk = new Walk(house, FEW_CODES);
    }

    // ---- built

    public int prop(int k, int first) {
        if (playing() > 0 || k < LEAST_STATES || k > MOST_STATES || first < 0 || first >= k) {
            return NONE;
        }
        if (house.props.size() >= MOST_PROPS || house.all * k > MOST_CODES) {
            return NONE;
        }
        walk.forget();
        return house.addProp(k, first);
    }

    public int step(int kind, int hands, int ticks, int room) {
        if (playing() > 0 || kind < 0 || kind >= KINDS || !areHands(hands)) {
            return NONE;
        }
        if (ticks < 1 || ticks > MOST_TICKS || room < 0 || room >= ROOMS) {
            return NONE;
        }
        if (house.steps.size() >= MOST_STEPS || kind >= ONCE && house.all * 2 > MOST_CODES) {
            return NONE;
        }
        walk.forget();
        return house.addStep(new Step(kind, hands, ticks, room));
    }

    public boolean need(int step, int prop, int state) {
        if (playing() > 0 || !house.hasStep(step) || !house.hasState(prop, state)) {
            return false;
        }
        walk.forget();
        return house.steps.get(step).needs.add(house.props.get(prop), state);
    }

    public boolean give(int step, int prop, int state) {
        if (playing() > 0 || !house.hasStep(step) || !house.hasState(prop, state)) {
            return false;
        }
        Pairs gives = house.steps.get(step).gives;
        if (gives.names(prop)) {
            return false;
        }
        walk.forget();
        return gives.add(house.props.get(prop), state);
    }

    public boolean goal(int prop, int state) {
        if (playing() > 0 || !house.hasState(prop, state)) {
            return false;
        }
        walk.forget();
        return house.end.add(house.props.get(prop), state);
    }

    public boolean hands(int n) {
        if (playing() > 0 || !areHands(n)) {
            return false;
        }
        walk.forget();
        house.hands = n;
        return true;
    }

    public boolean rule(int prop, int other, int state) {
        if (playing() > 0 || !house.hasProp(prop) || prop == other || !house.hasState(other, state)) {
            return false;
        }
        Prop ruled = house.props.get(prop);
        ruled.ruleProp = other;
        ruled.ruleState = state;
        return true;
    }

    public boolean exit(int prop, int state) {
        if (playing() > 0 || !house.hasState(prop, state)) {
            return false;
        }
        house.props.get(prop).exit = state;
        return true;
    }

    public int clear() {
        int props = house.props.size();
        house.tearDown();
        walk.forget();
        told.begin(0);
        diary.begin();
        for (int g = 0; g < groups.size(); g++) {
            groups.get(g).plays = false;
        }
        return props;
    }

    public int count(int what) {
        switch (what) {
            case 0:
                return house.props.size();
            case 1:
                return house.steps.size();
            case 2:
                return house.end.size();
            case 3:
                return house.all;
            case 4:
                return house.hands;
            case 5:
                return playing();
            case 6:
                return told.size;
            case 7:
                return diary.made;
            case 8:
                return house.start;
            default:
                return NONE;
        }
    }

    // ---- what can be

    public int reached() {
        return walked().reach.size;
    }

    public int comes(int code) {
        if (!house.hasCode(code)) {
            return NONE;
        }
        return walked().reach.has(code) ? 1 : 0;
    }

    public int part(int code, int what, int i) throws NoSuchElementException {
        if (house.hasCode(code) && what == 0 && house.hasProp(i)) {
            return house.props.get(i).stateIn(code);
        }
        if (house.hasCode(code) && what == 1 && house.hasStep(i)) {
            return house.steps.get(i).wasDone(code) ? 1 : 0;
        }
        throw new NoSuchElementException("no such CODE, PROP, STEP or what");
    }

    public int open(int code) {
        return house.hasCode(code) ? house.openSteps(code) : NONE;
    }

    public int behind(int code, int step) {
        if (!house.hasCode(code) || !house.hasStep(step) || !house.canMove(code, step, house.hands)) {
            return NONE;
        }
        return house.codeAfter(code, step);
    }

    public int least(int code) {
        return house.hasCode(code) ? measured().leastSum(code) : NONE;
    }

    public int hint(int code) {
        return house.hasCode(code) ? measured().firstStep(code) : NONE;
    }

    public int way(int code) {
        if (!house.hasCode(code)) {
            return NONE;
        }
        Walk ways = measured();
        if (ways.leastSum(code) == SPENT) {
            return SPENT;
        }
        told.begin(house.all);
        int at = code;
        // A least way comes to no CODE twice, so ALL bounds it.
        for (int n = 0; n < house.all; n++) {
            int step = ways.firstStep(at);
            if (step == NONE) {
                break;
            }
            told.put(step);
            at = house.codeAfter(at, step);
        }
        return told.size;
    }

    public int longest() {
        return walked().longestSum();
    }

    public int trap() {
        Walk ways = measured();
        if (ways.leastSum(house.start) == SPENT) {
            return 2;
        }
        if (ways.countLost() == 0) {
            return 0;
        }
        int code = ways.leastTrap();
        int step = ways.stepToLost(code);
        told.begin(3);
        told.put(code);
        told.put(step);
        told.put(house.codeAfter(code, step));
        return 1;
    }

    public int lost() {
        return measured().countLost();
    }

    public int must(int a, int s, int b, int t) {
        if (!house.hasState(a, s) || !house.hasState(b, t)) {
            return NONE;
        }
        return walked().comesPast(a, s, b, t) ? 0 : 1;
    }

    public int idle() {
        int used = walked().usedSteps();
        told.begin(MOST_STEPS);
        for (int s = 0; s < house.steps.size(); s++) {
            if ((used >> s & 1) == 0) {
                told.put(s);
            }
        }
        return told.size;
    }

    // ---- sensors

    public boolean reading(int prop, int state) {
        if (!house.hasProp(prop) || state != NONE && !house.hasState(prop, state)) {
            return false;
        }
        house.props.get(prop).reading = state;
        return true;
    }

    public int liars() {
        Walk ways = walked();
        int set = ways.firstLiars();
        int many = Integer.bitCount(set);
        if (many > MOST_LIARS) {
            return SPENT;
        }
        told.begin(MOST_LIARS + 1);
        for (int p = 0; p < house.props.size(); p++) {
            if ((set >> p & 1) == 1) {
                told.put(p);
            }
        }
        told.put(ways.countTold(set));
        return many;
    }

    // ---- back

    public int back(int code) {
        if (!house.hasCode(code)) {
            return NONE;
        }
        int many = house.orderBack(code, order);
        if (many == SPENT) {
            return SPENT;
        }
        told.begin(MOST_PROPS);
        for (int i = 0; i < many && i < order.length; i++) {
            told.put(order[i]);
        }
        return many;
    }

    // ---- groups

    public int enter(int hands) {
        if (!areHands(hands)) {
            return NONE;
        }
        for (int g = 0; g < groups.size(); g++) {
            if (!groups.get(g).plays) {
                groups.get(g).begin(hands, house.start);
                return g;
            }
        }
        return NONE;
    }

    public int act(int group, int step) {
        if (!plays(group) || !house.hasStep(step)) {
            return NONE;
        }
        Group actor = groups.get(group);
        Step deed = house.steps.get(step);
        if (!house.canMove(actor.code, step, actor.hands)) {
            return 0;
        }
        if (isTaken(deed.room, group)) {
            return MET;
        }
        actor.move(house.codeAfter(actor.code, step), deed.ticks, deed.room);
        diary.write(group, step, actor.code);
        return 1;
    }

    public int group(int g, int what) throws NoSuchElementException {
        if (!plays(g)) {
            throw new NoSuchElementException("no such GROUP");
        }
        Group asked = groups.get(g);
        switch (what) {
            case 0:
                return asked.code;
            case 1:
                return asked.hands;
            case 2:
                return asked.ticks;
            case 3:
                return asked.room;
            case 4:
                return asked.moves;
            case 5:
                return house.isEnd(asked.code) ? 1 : 0;
            default:
                throw new NoSuchElementException("no such what");
        }
    }

    public int leave(int group) {
        if (!plays(group)) {
            return NONE;
        }
        groups.get(group).plays = false;
        return groups.get(group).ticks;
    }

    public int alarm() {
        told.begin(MOST_GROUPS);
        for (int g = 0; g < groups.size(); g++) {
            if (groups.get(g).plays) {
                groups.get(g).plays = false;
                told.put(house.withExits(groups.get(g).code));
            }
        }
        return told.size;
    }

    public int log(int i, int what) {
        return diary.read(i, what);
    }

    public int row(int i) throws NoSuchElementException {
        if (i < 0 || i >= told.size || i >= told.numbers.length) {
            throw new NoSuchElementException("no such number of the ROW");
        }
        return told.numbers[i];
    }

    // ---- help

    private static boolean areHands(int n) {
        return n >= 1 && n <= MOST_HANDS;
    }

    private boolean plays(int g) {
        return g >= 0 && g < groups.size() && groups.get(g).plays;
    }

    private int playing() {
        int many = 0;
        for (int g = 0; g < groups.size(); g++) {
            many += groups.get(g).plays ? 1 : 0;
        }
        return many;
    }

    private boolean isTaken(int room, int asker) {
        for (int g = 0; g < groups.size(); g++) {
            if (g != asker && groups.get(g).plays && groups.get(g).room == room) {
                return true;
            }
        }
        return false;
    }

    private Walk walked() {
        widen();
        walk.chart();
        return walk;
    }

    private Walk measured() {
        widen();
        walk.chart();
        walk.measure();
        return walk;
    }

    /** Most houses are small: the large rows are made only for one that needs them, and once. */
    private void widen() {
        if (walk.most < house.all) {
            walk = new Walk(house, MOST_CODES);
        }
    }

    // ---- classes inside

    /** A PROP. */
    private static final class Prop {
        final int number;
        final int states;
        final int first;
        final int weight;
        int ruleProp = NONE;
        int ruleState = NONE;
        int exit = NONE;
        int reading = NONE;

        Prop(int number, int states, int first, int weight) {
            this.number = number;
            // Both divide, so neither may ever be 0.
            this.states = Math.max(LEAST_STATES, states);
            this.weight = Math.max(1, weight);
            this.first = first;
        }

        int stateIn(int code) {
            return code / weight % states;
        }

        int codeWith(int code, int state) {
            return code + (state - code / weight % states) * weight;
        }

        boolean isMoved(int code) {
            return stateIn(code) != first;
        }

        boolean isLie(int code) {
            return reading != NONE && reading != stateIn(code);
        }
    }

    /** A PROP and a STATE of it. */
    private static final class Pair {
        final Prop prop;
        final int state;

        Pair(Prop prop, int state) {
            this.prop = prop;
            this.state = state;
        }
    }

    /** Pairs of a PROP and a STATE. */
    private static final class Pairs {
        private final ArrayList<Pair> pairs = new ArrayList<>();
        private final int most;

        Pairs(int most) {
            this.most = most;
        }

        int size() {
            return pairs.size();
        }

        boolean add(Prop prop, int state) {
            if (pairs.size() >= most) {
                return false;
            }
            pairs.add(new Pair(prop, state));
            return true;
        }

        void empty() {
            pairs.clear();
        }

        boolean names(int prop) {
            for (int i = 0; i < pairs.size(); i++) {
                if (pairs.get(i).prop.number == prop) {
                    return true;
                }
            }
            return false;
        }

        boolean areAll(int code) {
            for (int i = 0; i < pairs.size(); i++) {
                Pair pair = pairs.get(i);
                if (pair.prop.stateIn(code) != pair.state) {
                    return false;
                }
            }
            return true;
        }

        boolean isAny(int code) {
            for (int i = 0; i < pairs.size(); i++) {
                Pair pair = pairs.get(i);
                if (pair.prop.stateIn(code) == pair.state) {
                    return true;
                }
            }
            return false;
        }

        int codeWith(int code) {
            int with = code;
            for (int i = 0; i < pairs.size(); i++) {
                Pair pair = pairs.get(i);
                with = pair.prop.codeWith(with, pair.state);
            }
            return with;
        }

        /** In how many ways the STATES of these PROPS can be. */
        int variants() {
            int many = 1;
            for (int i = 0; i < pairs.size(); i++) {
                many *= pairs.get(i).prop.states;
            }
            return many;
        }

        int codeOfVariant(int code, int variant) {
            int with = code;
            int rest = variant;
            for (int i = 0; i < pairs.size(); i++) {
                Prop prop = pairs.get(i).prop;
                with = prop.codeWith(with, rest % prop.states);
                rest /= prop.states;
            }
            return with;
        }
    }

    /** A STEP; its weight is what it adds to a CODE when it was done, 0 if a CODE does not tell that. */
    private static final class Step {
        final int kind;
        final int hands;
        final int ticks;
        final int room;
        final Pairs needs = new Pairs(MOST_NEEDS);
        final Pairs gives = new Pairs(MOST_GIVES);
        int weight;

        Step(int kind, int hands, int ticks, int room) {
            this.kind = kind;
            this.hands = hands;
            this.ticks = ticks;
            this.room = room;
        }

        boolean wasDone(int code) {
            return weight > 0 && code / weight % 2 == 1;
        }

        int codeAfter(int code) {
            int after = gives.codeWith(code);
            return wasDone(code) ? after : after + weight;
        }

        /** Whether some CODE has this one behind it, needs and hands aside. */
        boolean leadsTo(int code) {
            return gives.areAll(code) && (weight == 0 || wasDone(code));
        }

        /** One of the CODES, gives.variants() in all, that have this one behind them. */
        int codeAhead(int code, int variant) {
            return gives.codeOfVariant(code, variant) - weight;
        }
    }

    /** All that is built. */
    private static final class House {
        final ArrayList<Prop> props = new ArrayList<>();
        final ArrayList<Step> steps = new ArrayList<>();
        final Pairs end = new Pairs(MOST_GOALS);
        int hands = HANDS_AT_FIRST;
        int all = 1;
        int start = 0;

        void tearDown() {
            props.clear();
            steps.clear();
            end.empty();
            hands = HANDS_AT_FIRST;
            all = 1;
            start = 0;
        }

        int addProp(int k, int first) {
            int weight = 1;
            for (int p = 0; p < props.size(); p++) {
                weight *= props.get(p).states;
                props.get(p).reading = NONE;
            }
            // In a CODE every PROP stands ahead of the STEPS, so these move up.
            for (int s = 0; s < steps.size(); s++) {
                steps.get(s).weight *= k;
            }
            props.add(new Prop(props.size(), k, first, weight));
            start += first * weight;
            all *= k;
            return props.size() - 1;
        }

        int addStep(Step step) {
            if (step.kind >= ONCE) {
                step.weight = all;
                all *= 2;
            }
            steps.add(step);
            return steps.size() - 1;
        }

        boolean hasProp(int prop) {
            return prop >= 0 && prop < props.size();
        }

        boolean hasState(int prop, int state) {
            return hasProp(prop) && state >= 0 && state < props.get(prop).states;
        }

        boolean hasStep(int step) {
            return step >= 0 && step < steps.size();
        }

        boolean hasCode(int code) {
            return code >= 0 && code < all;
        }

        boolean isSo(int code, int prop, int state) {
            return prop >= 0 && prop < props.size() && props.get(prop).stateIn(code) == state;
        }

        boolean isEnd(int code) {
            return end.areAll(code);
        }

        boolean canMove(int code, int step, int by) {
            return hasStep(step) && !isEnd(code) && canDo(code, steps.get(step), by);
        }

        int openSteps(int code) {
            int bits = 0;
            if (isEnd(code)) {
                return bits;
            }
            for (int s = 0; s < steps.size(); s++) {
                if (canDo(code, steps.get(s), hands)) {
                    bits |= 1 << s;
                }
            }
            return bits;
        }

        int codeAfter(int code, int step) {
            return hasStep(step) ? steps.get(step).codeAfter(code) : code;
        }

        int withExits(int code) {
            int with = code;
            for (int p = 0; p < props.size(); p++) {
                Prop prop = props.get(p);
                if (prop.exit != NONE) {
                    with = prop.codeWith(with, prop.exit);
                }
            }
            return with;
        }

        /** PROPS whose READINGS a CODE belies: bits. */
        int lies(int code) {
            int bits = 0;
            for (int p = 0; p < props.size(); p++) {
                if (props.get(p).isLie(code)) {
                    bits |= 1 << p;
                }
            }
            return bits;
        }

        /** Puts the order of promise 27 into a row: how many, or SPENT. */
        int orderBack(int code, int[] order) {
            int at = code;
            int many = 0;
            for (int n = 0; n < props.size(); n++) {
                int prop = nextBack(at);
                if (prop == NONE || many >= order.length) {
                    break;
                }
                order[many] = prop;
                many++;
                at = props.get(prop).codeWith(at, props.get(prop).first);
            }
            for (int p = 0; p < props.size(); p++) {
                if (props.get(p).isMoved(at)) {
                    return SPENT;
                }
            }
            return many;
        }

        private int nextBack(int code) {
            for (int p = 0; p < props.size(); p++) {
                if (props.get(p).isMoved(code) && isRuleSo(code, props.get(p)) && !isLeanedOn(code, p)) {
                    return p;
                }
            }
            return NONE;
        }

        private boolean isRuleSo(int code, Prop prop) {
            return prop.ruleProp == NONE || isSo(code, prop.ruleProp, prop.ruleState);
        }

        /** A PROP comes to FIRST and stays so: another one that needs it as it is now must go ahead. */
        private boolean isLeanedOn(int code, int prop) {
            for (int p = 0; p < props.size(); p++) {
                Prop other = props.get(p);
                if (other.ruleProp == prop && other.isMoved(code) && isRuleSo(code, other)) {
                    return true;
                }
            }
            return false;
        }

        private boolean canDo(int code, Step step, int by) {
            if (by < step.hands || step.wasDone(code)) {
                return false;
            }
            if (step.kind == EITHER) {
                return step.needs.size() == 0 || step.needs.isAny(code);
            }
            return step.needs.areAll(code) && (step.kind != LAST || isAllOnceDone(code));
        }

        private boolean isAllOnceDone(int code) {
            for (int s = 0; s < steps.size(); s++) {
                if (steps.get(s).kind == ONCE && !steps.get(s).wasDone(code)) {
                    return false;
                }
            }
            return true;
        }
    }

    /** CODES in the order in which they came, each once. */
    private static final class Line {
        private final int[] codes;
        private final byte[] marks;
        int size;

        Line(int most) {
            codes = new int[Math.max(0, most)];
            marks = new byte[Math.max(0, most)];
        }

        void begin() {
            Arrays.fill(marks, (byte) 0);
            size = 0;
        }

        boolean has(int code) {
            return code >= 0 && code < marks.length && marks[code] == 1;
        }

        void join(int code) {
            if (code >= 0 && code < marks.length && marks[code] == 0 && size < codes.length) {
                marks[code] = 1;
                codes[size] = code;
                size++;
            }
        }

        int codeAt(int i) {
            return i >= 0 && i < size && i < codes.length ? codes[i] : NONE;
        }
    }

    /** CODES with sums of TICKS, the one of the least sum to be taken next; sums stay when all is taken. */
    private static final class Heap {
        private final int[] sums;
        private final int[] codes;
        private final int[] places;
        private int size;

        Heap(int most) {
            sums = new int[Math.max(0, most)];
            codes = new int[Math.max(0, most)];
            places = new int[Math.max(0, most)];
        }

        void begin() {
            Arrays.fill(sums, SPENT);
            size = 0;
        }

        boolean isEmpty() {
            return size == 0;
        }

        int sumOf(int code) {
            return code >= 0 && code < sums.length ? sums[code] : SPENT;
        }

        void offer(int code, int sum) {
            if (code < 0 || code >= sums.length) {
                return;
            }
            if (sums[code] == SPENT && size < codes.length) {
                sums[code] = sum;
                size++;
                lift(code, size - 1);
            } else if (sum < sums[code]) {
                sums[code] = sum;
                lift(code, places[code]);
            }
        }

        int take() {
            if (size < 1 || size > codes.length) {
                return NONE;
            }
            int top = codes[0];
            size--;
            sink(codes[size]);
            return top;
        }

        private int codeAt(int at) {
            return at >= 0 && at < codes.length ? codes[at] : NONE;
        }

        private void place(int code, int at) {
            if (at >= 0 && at < codes.length && code >= 0 && code < places.length) {
                codes[at] = code;
                places[code] = at;
            }
        }

        private void lift(int code, int from) {
            int at = from;
            while (at > 0) {
                int above = codeAt((at - 1) / 2);
                if (sumOf(above) <= sumOf(code)) {
                    break;
                }
                place(above, at);
                at = (at - 1) / 2;
            }
            place(code, at);
        }

        private void sink(int code) {
            int at = 0;
            while (at * 2 + 1 < size) {
                int under = at * 2 + 1;
                if (under + 1 < size && sumOf(codeAt(under + 1)) < sumOf(codeAt(under))) {
                    under++;
                }
                if (sumOf(code) <= sumOf(codeAt(under))) {
                    break;
                }
                place(codeAt(under), at);
                at = under;
            }
            place(code, at);
        }
    }

    /** What can be in a house; found when asked for, and kept until something is built. */
    private static final class Walk {
        final int most;
        final Line reach;
        private final House house;
        private final int[] opens;
        private final Line line;
        private final int[] tally;
        private final int[] greatest;
        private final Heap ends;
        private boolean isCharted;
        private boolean isMeasured;
        private boolean isLongestKnown;
        private int longestKnown;

        Walk(House house, int most) {
            this.house = house;
            this.most = Math.max(0, most);
            reach = new Line(this.most);
            opens = new int[this.most];
            line = new Line(this.most);
            tally = new int[this.most];
            greatest = new int[this.most];
            ends = new Heap(this.most);
        }

        void forget() {
            isCharted = false;
            isMeasured = false;
            isLongestKnown = false;
        }

        void chart() {
            if (isCharted) {
                return;
            }
            reach.begin();
            reach.join(house.start);
            for (int i = 0; i < reach.size && i < most; i++) {
                int code = reach.codeAt(i);
                if (fits(code)) {
                    opens[code] = house.openSteps(code);
                    joinBehind(code, reach, NONE, NONE);
                }
            }
            isCharted = true;
        }

        private boolean fits(int code) {
            return code >= 0 && code < most;
        }

        private boolean isOpen(int code, int step) {
            return fits(code) && (opens[code] >> step & 1) == 1;
        }

        /** Lines up the CODES behind one, but none in which the shunned PROP has that STATE. */
        private void joinBehind(int code, Line to, int shunned, int state) {
            for (int s = 0; s < house.steps.size(); s++) {
                int next = isOpen(code, s) ? house.steps.get(s).codeAfter(code) : NONE;
                if (next != NONE && !house.isSo(next, shunned, state)) {
                    to.join(next);
                }
            }
        }

        void measure() {
            if (isMeasured) {
                return;
            }
            ends.begin();
            for (int code = 0; code < house.all; code++) {
                // What is not REACHED was not charted, but has least ways too.
                if (fits(code) && !reach.has(code)) {
                    opens[code] = house.openSteps(code);
                }
                if (house.isEnd(code)) {
                    ends.offer(code, 0);
                }
            }
            for (int n = 0; n < house.all && !ends.isEmpty(); n++) {
                int code = ends.take();
                for (int s = 0; s < house.steps.size(); s++) {
                    offerAhead(code, s);
                }
            }
            isMeasured = true;
        }

        /** Ways are measured from THE END, and what is ahead of a CODE is worked out: MOVES would fill the room. */
        private void offerAhead(int code, int s) {
            Step step = house.steps.get(s);
            if (!step.leadsTo(code)) {
                return;
            }
            int sum = ends.sumOf(code) + step.ticks;
            int many = step.gives.variants();
            for (int n = 0; n < many; n++) {
                int ahead = step.codeAhead(code, n);
                if (isOpen(ahead, s)) {
                    ends.offer(ahead, sum);
                }
            }
        }

        int leastSum(int code) {
            return ends.sumOf(code);
        }

        int firstStep(int code) {
            for (int s = 0; s < house.steps.size(); s++) {
                if (isOpen(code, s)) {
                    int rest = leastSum(house.codeAfter(code, s));
                    if (rest != SPENT && rest + house.steps.get(s).ticks == leastSum(code)) {
                        return s;
                    }
                }
            }
            return NONE;
        }

        int countLost() {
            int many = 0;
            for (int i = 0; i < reach.size; i++) {
                many += leastSum(reach.codeAt(i)) == SPENT ? 1 : 0;
            }
            return many;
        }

        int leastTrap() {
            for (int code = 0; code < house.all; code++) {
                if (reach.has(code) && leastSum(code) != SPENT && stepToLost(code) != NONE) {
                    return code;
                }
            }
            return NONE;
        }

        int stepToLost(int code) {
            for (int s = 0; s < house.steps.size(); s++) {
                if (isOpen(code, s) && leastSum(house.codeAfter(code, s)) == SPENT) {
                    return s;
                }
            }
            return NONE;
        }

        /** Whether some way comes to what is asked past all that is shunned. */
        boolean comesPast(int prop, int state, int shunned, int shunnedState) {
            line.begin();
            if (!house.isSo(house.start, shunned, shunnedState)) {
                line.join(house.start);
            }
            for (int i = 0; i < line.size && i < most; i++) {
                if (house.isSo(line.codeAt(i), prop, state)) {
                    return true;
                }
                joinBehind(line.codeAt(i), line, shunned, shunnedState);
            }
            return false;
        }

        int usedSteps() {
            int bits = 0;
            for (int i = 0; i < reach.size; i++) {
                int code = reach.codeAt(i);
                bits |= fits(code) ? opens[code] : 0;
            }
            return bits;
        }

        int longestSum() {
            if (!isLongestKnown) {
                longestKnown = findLongest();
                isLongestKnown = true;
            }
            return longestKnown;
        }

        /** A CODE goes into the line when all its MOVES have arrived; in a ring none ever does. */
        private int findLongest() {
            countArrivals();
            Arrays.fill(greatest, 0);
            line.begin();
            if (fits(house.start) && tally[house.start] == 0) {
                line.join(house.start);
            }
            int longest = 0;
            for (int i = 0; i < line.size && i < most; i++) {
                int code = line.codeAt(i);
                if (fits(code)) {
                    longest = Math.max(longest, greatest[code]);
                    arriveFrom(code, greatest[code]);
                }
            }
            return line.size == reach.size ? longest : SPENT;
        }

        private void countArrivals() {
            Arrays.fill(tally, 0);
            for (int i = 0; i < reach.size; i++) {
                int code = reach.codeAt(i);
                for (int s = 0; s < house.steps.size(); s++) {
                    int next = isOpen(code, s) ? house.steps.get(s).codeAfter(code) : NONE;
                    if (fits(next)) {
                        tally[next]++;
                    }
                }
            }
        }

        private void arriveFrom(int code, int sum) {
            for (int s = 0; s < house.steps.size(); s++) {
                int next = isOpen(code, s) ? house.steps.get(s).codeAfter(code) : NONE;
                if (fits(next)) {
                    greatest[next] = Math.max(greatest[next], sum + house.steps.get(s).ticks);
                    tally[next]--;
                    if (tally[next] == 0) {
                        line.join(next);
                    }
                }
            }
        }

        /** The first set of fewest liars: bits. What a CODE belies is the least set that it asks for. */
        int firstLiars() {
            int set = house.lies(house.start);
            for (int i = 0; i < reach.size; i++) {
                int other = house.lies(reach.codeAt(i));
                if (isAhead(other, set)) {
                    set = other;
                }
            }
            return set;
        }

        private static boolean isAhead(int a, int b) {
            int more = Integer.bitCount(a) - Integer.bitCount(b);
            int unlike = a ^ b;
            int lowest = unlike & -unlike;
            return more < 0 || more == 0 && (a & lowest) != 0;
        }

        int countTold(int liars) {
            int many = 0;
            for (int i = 0; i < reach.size; i++) {
                many += (house.lies(reach.codeAt(i)) & ~liars) == 0 ? 1 : 0;
            }
            return many;
        }
    }

    /** The ROW. */
    private static final class Row {
        private int[] numbers = new int[FEW_CODES];
        private int size;

        void begin(int most) {
            size = 0;
            if (numbers.length < most) {
                numbers = new int[MOST_CODES];
            }
        }

        void put(int number) {
            if (size < numbers.length) {
                numbers[size] = number;
                size++;
            }
        }
    }

    /** A GROUP, or the place of one that does not play. */
    private static final class Group {
        boolean plays;
        int code;
        int hands;
        int ticks;
        int room;
        int moves;

        void begin(int by, int at) {
            plays = true;
            code = at;
            hands = by;
            ticks = 0;
            room = NONE;
            moves = 0;
        }

        void move(int to, int took, int in) {
            code = to;
            ticks += took;
            room = in;
            moves++;
        }
    }

    /** The latest MOVES of GROUPS, written round and round. */
    private static final class Diary {
        private final int[] actors = new int[MOST_LOGGED];
        private final int[] deeds = new int[MOST_LOGGED];
        private final int[] codes = new int[MOST_LOGGED];
        private int next;
        private int kept;
        private int made;

        void begin() {
            next = 0;
            kept = 0;
            made = 0;
        }

        void write(int actor, int deed, int code) {
            if (next < 0 || next >= MOST_LOGGED) {
                next = 0;
            }
            actors[next] = actor;
            deeds[next] = deed;
            codes[next] = code;
            next++;
            kept = Math.min(kept + 1, MOST_LOGGED);
            made++;
        }

        int read(int i, int what) {
            if (i < 0 || i >= kept) {
                return NONE;
            }
            int at = Math.floorMod(next - kept + i, MOST_LOGGED);
            switch (what) {
                case 0:
                    return actors[at];
                case 1:
                    return deeds[at];
                case 2:
                    return codes[at];
                default:
                    return NONE;
            }
        }
    }
}
