import java.util.NoSuchElementException;
import java.util.Random;

/** Any numbers in any state: only the three calls that may throw do, and only what they may. */
final class AnyCallTest {
    private static final Due DUE = new Due();
    private static final int[] ODD = {Integer.MIN_VALUE, Integer.MIN_VALUE + 1, -20000, -3, -2, -1, 0, 1, 2, 3, 4, 5,
        9, 10, 12, 23, 24, 31, 32, 33, 100, 101, 199, 200, 255, 256, 257, 19683, 19999, 20000, 20001, 1 << 30,
        Integer.MAX_VALUE - 1, Integer.MAX_VALUE};

    public static void main(String[] args) {
        for (int seed = 0; seed < 400; seed++) {
            Random random = new Random(seed);
            LockedHouse x = new LockedHouse();
            boolean tame = seed % 2 == 0;
            for (int n = 0; n < 512; n++) {
                makeCall(x, random, tame, seed);
            }
        }
        DUE.end("AnyCallTest");
    }

    private static void makeCall(LockedHouse x, Random random, boolean tame, int seed) {
        int which = random.nextInt(33);
        int a = number(random, tame);
        int b = number(random, tame);
        int c = number(random, tame);
        int d = number(random, tame);
        String call = "seed " + seed + " call " + which + " of " + a + ", " + b + ", " + c + ", " + d;
        boolean isFine = true;
        try {
            answer(x, which, new int[] {a, b, c, d}, random);
        } catch (NoSuchElementException e) {
            isFine = which >= 30;
        } catch (RuntimeException e) {
            System.out.println(e);
            isFine = false;
        }
        DUE.yes(call, isFine);
    }

    private static int number(Random random, boolean tame) {
        return tame && random.nextInt(10) > 0 ? random.nextInt(5) : ODD[random.nextInt(ODD.length)];
    }

    private static void answer(LockedHouse x, int which, int[] a, Random random) {
        switch (which) {
            case 0 -> x.prop(a[0], a[1]);
            case 1 -> x.step(a[0], a[1], a[2], a[3]);
            case 2 -> x.need(a[0], a[1], a[2]);
            case 3 -> x.give(a[0], a[1], a[2]);
            case 4 -> x.goal(a[0], a[1]);
            case 5 -> x.hands(a[0]);
            case 6 -> x.rule(a[0], a[1], a[2]);
            case 7 -> x.exit(a[0], a[1]);
            case 8 -> {
                if (random.nextInt(6) == 0) {
                    x.clear();
                }
            }
            case 9 -> x.count(a[0]);
            case 10 -> x.reached();
            case 11 -> x.comes(a[0]);
            case 12 -> x.open(a[0]);
            case 13 -> x.behind(a[0], a[1]);
            case 14 -> x.least(a[0]);
            case 15 -> x.hint(a[0]);
            case 16 -> x.way(a[0]);
            case 17 -> x.longest();
            case 18 -> x.trap();
            case 19 -> x.lost();
            case 20 -> x.must(a[0], a[1], a[2], a[3]);
            case 21 -> x.idle();
            case 22 -> x.reading(a[0], a[1]);
            case 23 -> x.liars();
            case 24 -> x.back(a[0]);
            case 25 -> x.enter(a[0]);
            case 26 -> x.act(a[0], a[1]);
            case 27 -> x.leave(a[0]);
            case 28 -> x.alarm();
            case 29 -> x.log(a[0], a[1]);
            case 30 -> x.part(a[0], a[1], a[2]);
            case 31 -> x.group(a[0], a[1]);
            default -> x.row(a[0]);
        }
    }
}
