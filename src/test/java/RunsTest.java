import java.lang.reflect.InvocationTargetException;
import java.lang.reflect.Method;
import java.util.ArrayList;
import java.util.List;
import java.util.NoSuchElementException;
import java.util.Random;
import java.util.TreeSet;

/** Runs of 512 calls in any order, right and wrong ones, on the class and on the plain house; seeds are fixed. */
final class RunsTest {
    private static final Due DUE = new Due();
    private static final int RUNS = 1500;
    private static final int MOST_CALLS = 512;
    /** The plain house is slow, so one that is walked stays small. */
    private static final int MOST_WALKED = 100;
    /** A letter behind a call's name is what number() gives it: k STATES, f FIRST, p PROP, v STATE, s STEP, c CODE .. */
    private static final String BUILT = "prop kf,step dhtr,need spv,give spv,goal pv,hands h,rule ppv,exit pv";
    private static final String ASKED = "count w,reached,comes c,part cwi,open c,behind cs,least c,hint c,way c,"
        + "longest,trap,lost,must pvpv,idle,reading pn,liars,back c,row i";
    private static final String PLAYED = "enter h,act gs,act gs,act gs,act gs,act gs,group gw,log lw,count w";
    private static final String ENDED = "leave g,alarm,clear,leave g,leave g";
    private static final String ROWS = "way,trap,idle,liars,back,alarm,clear";
    private static final int[] ODD = {Integer.MIN_VALUE, -20000, -3, -2, -1, 5, 10, 12, 24, 101, 200, 20000, 1 << 30,
        Integer.MAX_VALUE};

    /** What calls answered, to see that runs meet more than refusals. */
    private static final TreeSet<String> ANSWERS = new TreeSet<>();

    private final LockedHouse house = new LockedHouse();
    private final PlainHouse plain = new PlainHouse();
    private final Random random;
    private final String name;
    private int made;

    private RunsTest(int seed) {
        random = new Random(seed);
        name = "run " + seed + " ";
    }

    public static void main(String[] args) {
        for (int seed = 0; seed < RUNS; seed++) {
            new RunsTest(seed).run(seed);
        }
        for (String told : ("prop -1,step -1,need 0,need 1,give 0,give 1,goal 0,goal 1,hands 0,hands 1,rule 0,rule 1,"
                + "exit 0,exit 1,count -1,comes -1,comes 0,comes 1,part throws,open -1,open 0,behind -1,least -2,"
                + "least -1,least 0,hint -1,hint 0,way -2,way -1,way 0,longest -2,trap 0,trap 1,trap 2,must -1,must 0,"
                + "must 1,reading 0,reading 1,liars 0,liars 1,liars 2,liars 3,liars -2,back -2,back -1,back 0,back 3,"
                + "enter -1,enter 3,act -3,act -1,act 0,act 1,group throws,leave -1,alarm 0,alarm 4,log -1,row throws")
                .split(",")) {
            DUE.yes("some call answered " + told, ANSWERS.contains(told));
        }
        DUE.end("RunsTest");
    }

    private void run(int seed) {
        boolean isPlayed = seed % 3 == 0;
        while (made < MOST_CALLS) {
            boolean isEarly = made < 60;
            int dice = random.nextInt(100);
            String calls = dice < (isEarly ? 85 : isPlayed ? 10 : 20) ? BUILT
                : dice < (isPlayed ? 35 : 93) ? ASKED : dice < 99 ? PLAYED : ENDED;
            if (!isPlayed && !isEarly && plain.count(5) > 0 && random.nextInt(12) == 0) {
                calls = ENDED;
            }
            String[] all = calls.split(",");
            call(all[random.nextInt(all.length)]);
        }
    }

    private void call(String told) {
        String called = told.split(" ")[0];
        String roles = told.contains(" ") ? told.split(" ")[1] : "";
        int[] numbers = new int[roles.length()];
        for (int i = 0; i < numbers.length; i++) {
            numbers[i] = number(roles.charAt(i));
        }
        if (isTooSlow(called, numbers) || isTooOften(called)) {
            return;
        }
        compare(called, numbers);
        if (List.of(ROWS.split(",")).contains(called)) {
            compare("count", 6);
            for (int i = 0; i <= Math.min(plain.count(6), 20); i++) {
                compare("row", i);
            }
        }
    }

    private boolean isTooSlow(String called, int[] numbers) {
        boolean grows = called.equals("prop") || called.equals("step") && numbers[0] >= 2;
        return grows && plain.count(3) * 4 > MOST_WALKED;
    }

    /** Any calls at all would soon make houses that never end, that nobody can move in, or that nobody is in. */
    private boolean isTooOften(String called) {
        return switch (called) {
            case "goal" -> plain.count(2) > 0 && random.nextInt(12) > 0;
            case "need" -> random.nextInt(3) > 0;
            case "clear" -> random.nextInt(3) > 0;
            case "act", "group", "leave" -> plain.count(5) == 0 && random.nextInt(20) > 0;
            default -> false;
        };
    }

    private int number(char role) {
        if (random.nextInt(25) == 0) {
            return ODD[random.nextInt(ODD.length)];
        }
        return switch (role) {
            case 'k' -> 2 + random.nextInt(3);
            case 'f' -> random.nextInt(3);
            case 'd' -> random.nextInt(2) * random.nextInt(4);
            case 'h' -> 1 + random.nextInt(random.nextBoolean() ? 2 : 9);
            case 't' -> 1 + random.nextInt(random.nextBoolean() ? 100 : 4);
            case 'r' -> random.nextInt(8);
            case 's' -> random.nextInt(plain.count(1) + 1);
            case 'p' -> random.nextInt(Math.max(1, plain.count(0)));
            case 'v' -> random.nextInt(random.nextBoolean() ? 2 : 4);
            case 'n' -> random.nextInt(random.nextBoolean() ? 3 : 5) - 1;
            case 'c' -> random.nextInt(plain.count(3) + 1);
            case 'w' -> random.nextInt(random.nextBoolean() ? 3 : 10);
            case 'g' -> random.nextInt(4);
            case 'l' -> random.nextInt(Math.min(200, plain.count(7)) + 1);
            case 'i' -> random.nextInt(4);
            default -> throw new AssertionError("no role " + role);
        };
    }

    private void compare(String called, int... numbers) {
        if (made >= MOST_CALLS) {
            return;
        }
        made++;
        String got = answer(house, called, numbers);
        String want = answer(plain, called, numbers);
        ANSWERS.add(called + " " + got);
        List<String> told = new ArrayList<>();
        for (int n : numbers) {
            told.add(String.valueOf(n));
        }
        DUE.same(name + "call " + made + " " + called + "(" + String.join(", ", told) + ")", got, want);
    }

    private static String answer(Object of, String called, int[] numbers) {
        Class<?>[] types = new Class<?>[numbers.length];
        Object[] given = new Object[numbers.length];
        for (int i = 0; i < numbers.length; i++) {
            types[i] = int.class;
            given[i] = numbers[i];
        }
        try {
            Method m = of.getClass().getDeclaredMethod(called, types);
            Object got = m.invoke(of, given);
            return got instanceof Boolean b ? b ? "1" : "0" : got.toString();
        } catch (InvocationTargetException e) {
            return e.getCause() instanceof NoSuchElementException ? "throws" : "threw " + e.getCause();
        } catch (ReflectiveOperationException e) {
            throw new AssertionError(e);
        }
    }
}
