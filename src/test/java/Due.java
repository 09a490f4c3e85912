import java.util.NoSuchElementException;

/** Counts answers that are not the ones that are due; each test ends with end(). */
final class Due {
    /** A call that may throw. */
    interface Call {
        int answer();
    }

    private int wrong;
    private int asked;

    void is(String call, int got, int want) {
        asked++;
        if (got != want) {
            wrong++;
            System.out.println(call + " answered " + got + ", due is " + want);
        }
    }

    void yes(String call, boolean got) {
        is(call, got ? 1 : 0, 1);
    }

    void no(String call, boolean got) {
        is(call, got ? 1 : 0, 0);
    }

    void throwsNoSuch(String call, Call made) {
        asked++;
        String got;
        try {
            got = "answered " + made.answer();
        } catch (NoSuchElementException e) {
            return;
        } catch (RuntimeException e) {
            got = "threw " + e;
        }
        wrong++;
        System.out.println(call + " " + got + ", due is NoSuchElementException");
    }

    void rowIs(String call, LockedHouse house, int... want) {
        is(call + ": count(6)", house.count(6), want.length);
        for (int i = 0; i < want.length && i < house.count(6); i++) {
            is(call + ": row(" + i + ")", house.row(i), want[i]);
        }
        throwsNoSuch(call + ": row(" + want.length + ")", () -> house.row(want.length));
    }

    void end(String test) {
        System.out.println(test + ": " + asked + " answers, " + wrong + " wrong");
        if (wrong != 0 || asked == 0) {
            System.exit(1);
        }
    }
}
